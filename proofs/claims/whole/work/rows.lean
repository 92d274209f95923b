section
-- ===== PART A: goes FIRST, ahead of the names: the tables' words, and 'selects' of the private methods out of them =====
/-- a private method of a class that the tables say can be made, by its rows of tables_1 -/
def lw_okq (q : MethodName × Nat) : Prop := (q.1.cls ≠ "java/lang/invoke/MethodHandle" ∧ q.1.cls ≠ "java/lang/invoke/VarHandle") ∧ Cond.instantiable q.1.cls q.2 ∈ tables_1 ∧ Cond.privateMethod q.1 ∈ tables_1 ∧ Cond.instanceMethod q.1 ∈ tables_1
theorem lw_p0 : lw_okq (⟨"ChessHouse$Board", "fillHops", "(I)V"⟩, 17) := ⟨⟨by decide +kernel, by decide +kernel⟩, List.mem_of_getElem? (i := 313) (by decide +kernel), List.mem_of_getElem? (i := 324) (by decide +kernel), List.mem_of_getElem? (i := 325) (by decide +kernel)⟩
theorem lw_p1 : lw_okq (⟨"ChessHouse$Board", "put", "(II)V"⟩, 17) := ⟨⟨by decide +kernel, by decide +kernel⟩, List.mem_of_getElem? (i := 313) (by decide +kernel), List.mem_of_getElem? (i := 356) (by decide +kernel), List.mem_of_getElem? (i := 357) (by decide +kernel)⟩
theorem lw_p2 : lw_okq (⟨"java/lang/Throwable", "fillInStackTrace", "(I)Ljava/lang/Throwable;"⟩, 6) := ⟨⟨by decide +kernel, by decide +kernel⟩, List.mem_of_getElem? (i := 609) (by decide +kernel), List.mem_of_getElem? (i := 607) (by decide +kernel), List.mem_of_getElem? (i := 608) (by decide +kernel)⟩
theorem lw_p3 : lw_okq (⟨"ChessHouse", "takeFour", "(I)V"⟩, 15) := ⟨⟨by decide +kernel, by decide +kernel⟩, List.mem_of_getElem? (i := 34) (by decide +kernel), List.mem_of_getElem? (i := 634) (by decide +kernel), List.mem_of_getElem? (i := 635) (by decide +kernel)⟩
theorem lw_p4 : lw_okq (⟨"ChessHouse", "lineStop", "(I)I"⟩, 15) := ⟨⟨by decide +kernel, by decide +kernel⟩, List.mem_of_getElem? (i := 34) (by decide +kernel), List.mem_of_getElem? (i := 665) (by decide +kernel), List.mem_of_getElem? (i := 666) (by decide +kernel)⟩
theorem lw_p5 : lw_okq (⟨"ChessHouse$Words", "split", "()Z"⟩, 5) := ⟨⟨by decide +kernel, by decide +kernel⟩, List.mem_of_getElem? (i := 62) (by decide +kernel), List.mem_of_getElem? (i := 675) (by decide +kernel), List.mem_of_getElem? (i := 676) (by decide +kernel)⟩
theorem lw_p6 : lw_okq (⟨"ChessHouse", "perform", "(LChessHouse$Command;I)V"⟩, 15) := ⟨⟨by decide +kernel, by decide +kernel⟩, List.mem_of_getElem? (i := 34) (by decide +kernel), List.mem_of_getElem? (i := 737) (by decide +kernel), List.mem_of_getElem? (i := 738) (by decide +kernel)⟩
theorem lw_p7 : lw_okq (⟨"ChessHouse", "answerNothing", "()V"⟩, 15) := ⟨⟨by decide +kernel, by decide +kernel⟩, List.mem_of_getElem? (i := 34) (by decide +kernel), List.mem_of_getElem? (i := 754) (by decide +kernel), List.mem_of_getElem? (i := 755) (by decide +kernel)⟩
theorem lw_p8 : lw_okq (⟨"ChessHouse", "setUp", "()V"⟩, 15) := ⟨⟨by decide +kernel, by decide +kernel⟩, List.mem_of_getElem? (i := 34) (by decide +kernel), List.mem_of_getElem? (i := 762) (by decide +kernel), List.mem_of_getElem? (i := 763) (by decide +kernel)⟩
theorem lw_p9 : lw_okq (⟨"ChessHouse", "fault", "(I)V"⟩, 15) := ⟨⟨by decide +kernel, by decide +kernel⟩, List.mem_of_getElem? (i := 34) (by decide +kernel), List.mem_of_getElem? (i := 770) (by decide +kernel), List.mem_of_getElem? (i := 771) (by decide +kernel)⟩
theorem lw_p10 : lw_okq (⟨"ChessHouse", "tell", "(J)V"⟩, 15) := ⟨⟨by decide +kernel, by decide +kernel⟩, List.mem_of_getElem? (i := 34) (by decide +kernel), List.mem_of_getElem? (i := 774) (by decide +kernel), List.mem_of_getElem? (i := 775) (by decide +kernel)⟩
theorem lw_p11 : lw_okq (⟨"ChessHouse$Board", "readMen", "([BII)I"⟩, 17) := ⟨⟨by decide +kernel, by decide +kernel⟩, List.mem_of_getElem? (i := 313) (by decide +kernel), List.mem_of_getElem? (i := 789) (by decide +kernel), List.mem_of_getElem? (i := 790) (by decide +kernel)⟩
theorem lw_p12 : lw_okq (⟨"ChessHouse$Board", "readSideAndRights", "([BII)I"⟩, 17) := ⟨⟨by decide +kernel, by decide +kernel⟩, List.mem_of_getElem? (i := 313) (by decide +kernel), List.mem_of_getElem? (i := 853) (by decide +kernel), List.mem_of_getElem? (i := 854) (by decide +kernel)⟩
theorem lw_p13 : lw_okq (⟨"ChessHouse$Board", "readPassed", "([BII)I"⟩, 17) := ⟨⟨by decide +kernel, by decide +kernel⟩, List.mem_of_getElem? (i := 313) (by decide +kernel), List.mem_of_getElem? (i := 859) (by decide +kernel), List.mem_of_getElem? (i := 860) (by decide +kernel)⟩
theorem lw_p14 : lw_okq (⟨"ChessHouse$Board", "readNumbers", "([BII)I"⟩, 17) := ⟨⟨by decide +kernel, by decide +kernel⟩, List.mem_of_getElem? (i := 313) (by decide +kernel), List.mem_of_getElem? (i := 863) (by decide +kernel), List.mem_of_getElem? (i := 864) (by decide +kernel)⟩
theorem lw_p15 : lw_okq (⟨"ChessHouse$Board", "rightsStand", "()Z"⟩, 17) := ⟨⟨by decide +kernel, by decide +kernel⟩, List.mem_of_getElem? (i := 313) (by decide +kernel), List.mem_of_getElem? (i := 871) (by decide +kernel), List.mem_of_getElem? (i := 872) (by decide +kernel)⟩
def lw_privs_1 : List (MethodName × Nat) := [(⟨"ChessHouse$Board", "fillHops", "(I)V"⟩, 17), (⟨"ChessHouse$Board", "put", "(II)V"⟩, 17), (⟨"java/lang/Throwable", "fillInStackTrace", "(I)Ljava/lang/Throwable;"⟩, 6), (⟨"ChessHouse", "takeFour", "(I)V"⟩, 15), (⟨"ChessHouse", "lineStop", "(I)I"⟩, 15), (⟨"ChessHouse$Words", "split", "()Z"⟩, 5), (⟨"ChessHouse", "perform", "(LChessHouse$Command;I)V"⟩, 15), (⟨"ChessHouse", "answerNothing", "()V"⟩, 15), (⟨"ChessHouse", "setUp", "()V"⟩, 15), (⟨"ChessHouse", "fault", "(I)V"⟩, 15), (⟨"ChessHouse", "tell", "(J)V"⟩, 15), (⟨"ChessHouse$Board", "readMen", "([BII)I"⟩, 17), (⟨"ChessHouse$Board", "readSideAndRights", "([BII)I"⟩, 17), (⟨"ChessHouse$Board", "readPassed", "([BII)I"⟩, 17), (⟨"ChessHouse$Board", "readNumbers", "([BII)I"⟩, 17), (⟨"ChessHouse$Board", "rightsStand", "()Z"⟩, 17)]
theorem lw_r1 : ∀ q ∈ lw_privs_1, lw_okq q := List.forall_mem_cons.mpr ⟨lw_p0, List.forall_mem_cons.mpr ⟨lw_p1, List.forall_mem_cons.mpr ⟨lw_p2, List.forall_mem_cons.mpr ⟨lw_p3, List.forall_mem_cons.mpr ⟨lw_p4, List.forall_mem_cons.mpr ⟨lw_p5, List.forall_mem_cons.mpr ⟨lw_p6, List.forall_mem_cons.mpr ⟨lw_p7, List.forall_mem_cons.mpr ⟨lw_p8, List.forall_mem_cons.mpr ⟨lw_p9, List.forall_mem_cons.mpr ⟨lw_p10, List.forall_mem_cons.mpr ⟨lw_p11, List.forall_mem_cons.mpr ⟨lw_p12, List.forall_mem_cons.mpr ⟨lw_p13, List.forall_mem_cons.mpr ⟨lw_p14, List.forall_mem_cons.mpr ⟨lw_p15, fun _ h => absurd h List.not_mem_nil⟩⟩⟩⟩⟩⟩⟩⟩⟩⟩⟩⟩⟩⟩⟩⟩
theorem lw_p16 : lw_okq (⟨"ChessHouse$Board", "passedStands", "()Z"⟩, 17) := ⟨⟨by decide +kernel, by decide +kernel⟩, List.mem_of_getElem? (i := 313) (by decide +kernel), List.mem_of_getElem? (i := 875) (by decide +kernel), List.mem_of_getElem? (i := 876) (by decide +kernel)⟩
theorem lw_p17 : lw_okq (⟨"ChessHouse$Board", "passedPawn", "()I"⟩, 17) := ⟨⟨by decide +kernel, by decide +kernel⟩, List.mem_of_getElem? (i := 313) (by decide +kernel), List.mem_of_getElem? (i := 879) (by decide +kernel), List.mem_of_getElem? (i := 880) (by decide +kernel)⟩
theorem lw_p18 : lw_okq (⟨"ChessHouse", "fault", "(II)V"⟩, 15) := ⟨⟨by decide +kernel, by decide +kernel⟩, List.mem_of_getElem? (i := 34) (by decide +kernel), List.mem_of_getElem? (i := 883) (by decide +kernel), List.mem_of_getElem? (i := 884) (by decide +kernel)⟩
theorem lw_p19 : lw_okq (⟨"ChessHouse", "swapGames", "()V"⟩, 15) := ⟨⟨by decide +kernel, by decide +kernel⟩, List.mem_of_getElem? (i := 34) (by decide +kernel), List.mem_of_getElem? (i := 900) (by decide +kernel), List.mem_of_getElem? (i := 901) (by decide +kernel)⟩
theorem lw_p20 : lw_okq (⟨"ChessHouse", "gameStop", "(I)I"⟩, 15) := ⟨⟨by decide +kernel, by decide +kernel⟩, List.mem_of_getElem? (i := 34) (by decide +kernel), List.mem_of_getElem? (i := 904) (by decide +kernel), List.mem_of_getElem? (i := 905) (by decide +kernel)⟩
theorem lw_p21 : lw_okq (⟨"ChessHouse$GameReader", "checkBytes", "()V"⟩, 12) := ⟨⟨by decide +kernel, by decide +kernel⟩, List.mem_of_getElem? (i := 128) (by decide +kernel), List.mem_of_getElem? (i := 913) (by decide +kernel), List.mem_of_getElem? (i := 914) (by decide +kernel)⟩
theorem lw_p22 : lw_okq (⟨"ChessHouse$GameReader", "fail", "(II)V"⟩, 12) := ⟨⟨by decide +kernel, by decide +kernel⟩, List.mem_of_getElem? (i := 128) (by decide +kernel), List.mem_of_getElem? (i := 917) (by decide +kernel), List.mem_of_getElem? (i := 918) (by decide +kernel)⟩
theorem lw_p23 : lw_okq (⟨"ChessHouse$GameReader", "skipBlanks", "()V"⟩, 12) := ⟨⟨by decide +kernel, by decide +kernel⟩, List.mem_of_getElem? (i := 128) (by decide +kernel), List.mem_of_getElem? (i := 921) (by decide +kernel), List.mem_of_getElem? (i := 922) (by decide +kernel)⟩
theorem lw_p24 : lw_okq (⟨"ChessHouse$GameReader", "current", "()I"⟩, 12) := ⟨⟨by decide +kernel, by decide +kernel⟩, List.mem_of_getElem? (i := 128) (by decide +kernel), List.mem_of_getElem? (i := 925) (by decide +kernel), List.mem_of_getElem? (i := 926) (by decide +kernel)⟩
theorem lw_p25 : lw_okq (⟨"ChessHouse$GameReader", "readTag", "()V"⟩, 12) := ⟨⟨by decide +kernel, by decide +kernel⟩, List.mem_of_getElem? (i := 128) (by decide +kernel), List.mem_of_getElem? (i := 929) (by decide +kernel), List.mem_of_getElem? (i := 930) (by decide +kernel)⟩
theorem lw_p26 : lw_okq (⟨"ChessHouse$GameReader", "pass", "(I)Z"⟩, 12) := ⟨⟨by decide +kernel, by decide +kernel⟩, List.mem_of_getElem? (i := 128) (by decide +kernel), List.mem_of_getElem? (i := 936) (by decide +kernel), List.mem_of_getElem? (i := 937) (by decide +kernel)⟩
theorem lw_p27 : lw_okq (⟨"ChessHouse$GameReader", "readValue", "()I"⟩, 12) := ⟨⟨by decide +kernel, by decide +kernel⟩, List.mem_of_getElem? (i := 128) (by decide +kernel), List.mem_of_getElem? (i := 940) (by decide +kernel), List.mem_of_getElem? (i := 941) (by decide +kernel)⟩
theorem lw_p28 : lw_okq (⟨"ChessHouse$GameReader", "readRemark", "()V"⟩, 12) := ⟨⟨by decide +kernel, by decide +kernel⟩, List.mem_of_getElem? (i := 128) (by decide +kernel), List.mem_of_getElem? (i := 951) (by decide +kernel), List.mem_of_getElem? (i := 952) (by decide +kernel)⟩
theorem lw_p29 : lw_okq (⟨"ChessHouse$GameReader", "readMark", "()V"⟩, 12) := ⟨⟨by decide +kernel, by decide +kernel⟩, List.mem_of_getElem? (i := 128) (by decide +kernel), List.mem_of_getElem? (i := 959) (by decide +kernel), List.mem_of_getElem? (i := 960) (by decide +kernel)⟩
theorem lw_p30 : lw_okq (⟨"ChessHouse$GameReader", "readBracket", "()V"⟩, 12) := ⟨⟨by decide +kernel, by decide +kernel⟩, List.mem_of_getElem? (i := 128) (by decide +kernel), List.mem_of_getElem? (i := 970) (by decide +kernel), List.mem_of_getElem? (i := 971) (by decide +kernel)⟩
theorem lw_p31 : lw_okq (⟨"ChessHouse$Board", "lift", "(I)V"⟩, 17) := ⟨⟨by decide +kernel, by decide +kernel⟩, List.mem_of_getElem? (i := 313) (by decide +kernel), List.mem_of_getElem? (i := 986) (by decide +kernel), List.mem_of_getElem? (i := 987) (by decide +kernel)⟩
def lw_privs_2 : List (MethodName × Nat) := [(⟨"ChessHouse$Board", "passedStands", "()Z"⟩, 17), (⟨"ChessHouse$Board", "passedPawn", "()I"⟩, 17), (⟨"ChessHouse", "fault", "(II)V"⟩, 15), (⟨"ChessHouse", "swapGames", "()V"⟩, 15), (⟨"ChessHouse", "gameStop", "(I)I"⟩, 15), (⟨"ChessHouse$GameReader", "checkBytes", "()V"⟩, 12), (⟨"ChessHouse$GameReader", "fail", "(II)V"⟩, 12), (⟨"ChessHouse$GameReader", "skipBlanks", "()V"⟩, 12), (⟨"ChessHouse$GameReader", "current", "()I"⟩, 12), (⟨"ChessHouse$GameReader", "readTag", "()V"⟩, 12), (⟨"ChessHouse$GameReader", "pass", "(I)Z"⟩, 12), (⟨"ChessHouse$GameReader", "readValue", "()I"⟩, 12), (⟨"ChessHouse$GameReader", "readRemark", "()V"⟩, 12), (⟨"ChessHouse$GameReader", "readMark", "()V"⟩, 12), (⟨"ChessHouse$GameReader", "readBracket", "()V"⟩, 12), (⟨"ChessHouse$Board", "lift", "(I)V"⟩, 17)]
theorem lw_r2 : ∀ q ∈ lw_privs_2, lw_okq q := List.forall_mem_cons.mpr ⟨lw_p16, List.forall_mem_cons.mpr ⟨lw_p17, List.forall_mem_cons.mpr ⟨lw_p18, List.forall_mem_cons.mpr ⟨lw_p19, List.forall_mem_cons.mpr ⟨lw_p20, List.forall_mem_cons.mpr ⟨lw_p21, List.forall_mem_cons.mpr ⟨lw_p22, List.forall_mem_cons.mpr ⟨lw_p23, List.forall_mem_cons.mpr ⟨lw_p24, List.forall_mem_cons.mpr ⟨lw_p25, List.forall_mem_cons.mpr ⟨lw_p26, List.forall_mem_cons.mpr ⟨lw_p27, List.forall_mem_cons.mpr ⟨lw_p28, List.forall_mem_cons.mpr ⟨lw_p29, List.forall_mem_cons.mpr ⟨lw_p30, List.forall_mem_cons.mpr ⟨lw_p31, fun _ h => absurd h List.not_mem_nil⟩⟩⟩⟩⟩⟩⟩⟩⟩⟩⟩⟩⟩⟩⟩⟩
theorem lw_p32 : lw_okq (⟨"ChessHouse$Board", "rest", "()I"⟩, 17) := ⟨⟨by decide +kernel, by decide +kernel⟩, List.mem_of_getElem? (i := 313) (by decide +kernel), List.mem_of_getElem? (i := 999) (by decide +kernel), List.mem_of_getElem? (i := 1000) (by decide +kernel)⟩
theorem lw_p33 : lw_okq (⟨"ChessHouse$Board", "passedBy", "(II)I"⟩, 17) := ⟨⟨by decide +kernel, by decide +kernel⟩, List.mem_of_getElem? (i := 313) (by decide +kernel), List.mem_of_getElem? (i := 1009) (by decide +kernel), List.mem_of_getElem? (i := 1010) (by decide +kernel)⟩
theorem lw_p34 : lw_okq (⟨"ChessHouse$GameReader", "readResult", "()Z"⟩, 12) := ⟨⟨by decide +kernel, by decide +kernel⟩, List.mem_of_getElem? (i := 128) (by decide +kernel), List.mem_of_getElem? (i := 1014) (by decide +kernel), List.mem_of_getElem? (i := 1015) (by decide +kernel)⟩
theorem lw_p35 : lw_okq (⟨"ChessHouse$GameReader", "startsWith", "(Ljava/lang/String;)Z"⟩, 12) := ⟨⟨by decide +kernel, by decide +kernel⟩, List.mem_of_getElem? (i := 128) (by decide +kernel), List.mem_of_getElem? (i := 1025) (by decide +kernel), List.mem_of_getElem? (i := 1026) (by decide +kernel)⟩
theorem lw_p36 : lw_okq (⟨"ChessHouse$GameReader", "readMove", "()V"⟩, 12) := ⟨⟨by decide +kernel, by decide +kernel⟩, List.mem_of_getElem? (i := 128) (by decide +kernel), List.mem_of_getElem? (i := 1040) (by decide +kernel), List.mem_of_getElem? (i := 1041) (by decide +kernel)⟩
theorem lw_p37 : lw_okq (⟨"ChessHouse$GameReader", "readNumber", "()V"⟩, 12) := ⟨⟨by decide +kernel, by decide +kernel⟩, List.mem_of_getElem? (i := 128) (by decide +kernel), List.mem_of_getElem? (i := 1044) (by decide +kernel), List.mem_of_getElem? (i := 1045) (by decide +kernel)⟩
theorem lw_p38 : lw_okq (⟨"ChessHouse$Board", "pawnMoves", "([III)I"⟩, 17) := ⟨⟨by decide +kernel, by decide +kernel⟩, List.mem_of_getElem? (i := 313) (by decide +kernel), List.mem_of_getElem? (i := 1056) (by decide +kernel), List.mem_of_getElem? (i := 1057) (by decide +kernel)⟩
theorem lw_p39 : lw_okq (⟨"ChessHouse$Board", "hopMoves", "([III)I"⟩, 17) := ⟨⟨by decide +kernel, by decide +kernel⟩, List.mem_of_getElem? (i := 313) (by decide +kernel), List.mem_of_getElem? (i := 1060) (by decide +kernel), List.mem_of_getElem? (i := 1061) (by decide +kernel)⟩
theorem lw_p40 : lw_okq (⟨"ChessHouse$Board", "kingMoves", "([IIIZ)I"⟩, 17) := ⟨⟨by decide +kernel, by decide +kernel⟩, List.mem_of_getElem? (i := 313) (by decide +kernel), List.mem_of_getElem? (i := 1064) (by decide +kernel), List.mem_of_getElem? (i := 1065) (by decide +kernel)⟩
theorem lw_p41 : lw_okq (⟨"ChessHouse$Board", "slideMoves", "([IIII)I"⟩, 17) := ⟨⟨by decide +kernel, by decide +kernel⟩, List.mem_of_getElem? (i := 313) (by decide +kernel), List.mem_of_getElem? (i := 1068) (by decide +kernel), List.mem_of_getElem? (i := 1069) (by decide +kernel)⟩
theorem lw_p42 : lw_okq (⟨"ChessHouse$Signs", "copy", "([BIIZ)Z"⟩, 11) := ⟨⟨by decide +kernel, by decide +kernel⟩, List.mem_of_getElem? (i := 88) (by decide +kernel), List.mem_of_getElem? (i := 1075) (by decide +kernel), List.mem_of_getElem? (i := 1076) (by decide +kernel)⟩
theorem lw_p43 : lw_okq (⟨"ChessHouse$Signs", "parse", "()Z"⟩, 11) := ⟨⟨by decide +kernel, by decide +kernel⟩, List.mem_of_getElem? (i := 88) (by decide +kernel), List.mem_of_getElem? (i := 1079) (by decide +kernel), List.mem_of_getElem? (i := 1080) (by decide +kernel)⟩
theorem lw_p44 : lw_okq (⟨"ChessHouse$Signs", "isRow", "(Ljava/lang/String;)Z"⟩, 11) := ⟨⟨by decide +kernel, by decide +kernel⟩, List.mem_of_getElem? (i := 88) (by decide +kernel), List.mem_of_getElem? (i := 1084) (by decide +kernel), List.mem_of_getElem? (i := 1085) (by decide +kernel)⟩
theorem lw_p45 : lw_okq (⟨"ChessHouse$Signs", "parseSquares", "(I)Z"⟩, 11) := ⟨⟨by decide +kernel, by decide +kernel⟩, List.mem_of_getElem? (i := 88) (by decide +kernel), List.mem_of_getElem? (i := 1093) (by decide +kernel), List.mem_of_getElem? (i := 1094) (by decide +kernel)⟩
theorem lw_p46 : lw_okq (⟨"ChessHouse$Signs", "fits", "(LChessHouse$Board;I)Z"⟩, 11) := ⟨⟨by decide +kernel, by decide +kernel⟩, List.mem_of_getElem? (i := 88) (by decide +kernel), List.mem_of_getElem? (i := 1103) (by decide +kernel), List.mem_of_getElem? (i := 1104) (by decide +kernel)⟩
theorem lw_p47 : lw_okq (⟨"ChessHouse$Signs", "checkSign", "(LChessHouse$Board;II)I"⟩, 11) := ⟨⟨by decide +kernel, by decide +kernel⟩, List.mem_of_getElem? (i := 88) (by decide +kernel), List.mem_of_getElem? (i := 1111) (by decide +kernel), List.mem_of_getElem? (i := 1112) (by decide +kernel)⟩
def lw_privs_3 : List (MethodName × Nat) := [(⟨"ChessHouse$Board", "rest", "()I"⟩, 17), (⟨"ChessHouse$Board", "passedBy", "(II)I"⟩, 17), (⟨"ChessHouse$GameReader", "readResult", "()Z"⟩, 12), (⟨"ChessHouse$GameReader", "startsWith", "(Ljava/lang/String;)Z"⟩, 12), (⟨"ChessHouse$GameReader", "readMove", "()V"⟩, 12), (⟨"ChessHouse$GameReader", "readNumber", "()V"⟩, 12), (⟨"ChessHouse$Board", "pawnMoves", "([III)I"⟩, 17), (⟨"ChessHouse$Board", "hopMoves", "([III)I"⟩, 17), (⟨"ChessHouse$Board", "kingMoves", "([IIIZ)I"⟩, 17), (⟨"ChessHouse$Board", "slideMoves", "([IIII)I"⟩, 17), (⟨"ChessHouse$Signs", "copy", "([BIIZ)Z"⟩, 11), (⟨"ChessHouse$Signs", "parse", "()Z"⟩, 11), (⟨"ChessHouse$Signs", "isRow", "(Ljava/lang/String;)Z"⟩, 11), (⟨"ChessHouse$Signs", "parseSquares", "(I)Z"⟩, 11), (⟨"ChessHouse$Signs", "fits", "(LChessHouse$Board;I)Z"⟩, 11), (⟨"ChessHouse$Signs", "checkSign", "(LChessHouse$Board;II)I"⟩, 11)]
theorem lw_r3 : ∀ q ∈ lw_privs_3, lw_okq q := List.forall_mem_cons.mpr ⟨lw_p32, List.forall_mem_cons.mpr ⟨lw_p33, List.forall_mem_cons.mpr ⟨lw_p34, List.forall_mem_cons.mpr ⟨lw_p35, List.forall_mem_cons.mpr ⟨lw_p36, List.forall_mem_cons.mpr ⟨lw_p37, List.forall_mem_cons.mpr ⟨lw_p38, List.forall_mem_cons.mpr ⟨lw_p39, List.forall_mem_cons.mpr ⟨lw_p40, List.forall_mem_cons.mpr ⟨lw_p41, List.forall_mem_cons.mpr ⟨lw_p42, List.forall_mem_cons.mpr ⟨lw_p43, List.forall_mem_cons.mpr ⟨lw_p44, List.forall_mem_cons.mpr ⟨lw_p45, List.forall_mem_cons.mpr ⟨lw_p46, List.forall_mem_cons.mpr ⟨lw_p47, fun _ h => absurd h List.not_mem_nil⟩⟩⟩⟩⟩⟩⟩⟩⟩⟩⟩⟩⟩⟩⟩⟩
theorem lw_p48 : lw_okq (⟨"ChessHouse", "answerGame", "(I)V"⟩, 15) := ⟨⟨by decide +kernel, by decide +kernel⟩, List.mem_of_getElem? (i := 34) (by decide +kernel), List.mem_of_getElem? (i := 1129) (by decide +kernel), List.mem_of_getElem? (i := 1130) (by decide +kernel)⟩
theorem lw_p49 : lw_okq (⟨"ChessHouse", "answerNumber", "(J)V"⟩, 15) := ⟨⟨by decide +kernel, by decide +kernel⟩, List.mem_of_getElem? (i := 34) (by decide +kernel), List.mem_of_getElem? (i := 1133) (by decide +kernel), List.mem_of_getElem? (i := 1134) (by decide +kernel)⟩
theorem lw_p50 : lw_okq (⟨"ChessHouse$GameWriter", "writeTags", "()V"⟩, 3) := ⟨⟨by decide +kernel, by decide +kernel⟩, List.mem_of_getElem? (i := 174) (by decide +kernel), List.mem_of_getElem? (i := 1144) (by decide +kernel), List.mem_of_getElem? (i := 1145) (by decide +kernel)⟩
theorem lw_p51 : lw_okq (⟨"ChessHouse$GameWriter", "writeRemark", "(I)Z"⟩, 3) := ⟨⟨by decide +kernel, by decide +kernel⟩, List.mem_of_getElem? (i := 174) (by decide +kernel), List.mem_of_getElem? (i := 1161) (by decide +kernel), List.mem_of_getElem? (i := 1162) (by decide +kernel)⟩
theorem lw_p52 : lw_okq (⟨"ChessHouse$GameWriter", "writeGap", "()V"⟩, 3) := ⟨⟨by decide +kernel, by decide +kernel⟩, List.mem_of_getElem? (i := 174) (by decide +kernel), List.mem_of_getElem? (i := 1165) (by decide +kernel), List.mem_of_getElem? (i := 1166) (by decide +kernel)⟩
theorem lw_p53 : lw_okq (⟨"ChessHouse$GameWriter", "writeLine", "(II)V"⟩, 3) := ⟨⟨by decide +kernel, by decide +kernel⟩, List.mem_of_getElem? (i := 174) (by decide +kernel), List.mem_of_getElem? (i := 1173) (by decide +kernel), List.mem_of_getElem? (i := 1174) (by decide +kernel)⟩
theorem lw_p54 : lw_okq (⟨"ChessHouse$GameWriter", "writeNumber", "(LChessHouse$Board;)V"⟩, 3) := ⟨⟨by decide +kernel, by decide +kernel⟩, List.mem_of_getElem? (i := 174) (by decide +kernel), List.mem_of_getElem? (i := 1177) (by decide +kernel), List.mem_of_getElem? (i := 1178) (by decide +kernel)⟩
theorem lw_p55 : lw_okq (⟨"ChessHouse$Signs", "tellApart", "(LChessHouse$Board;ILChessHouse$Bytes;)V"⟩, 11) := ⟨⟨by decide +kernel, by decide +kernel⟩, List.mem_of_getElem? (i := 88) (by decide +kernel), List.mem_of_getElem? (i := 1190) (by decide +kernel), List.mem_of_getElem? (i := 1191) (by decide +kernel)⟩
theorem lw_p56 : lw_okq (⟨"ChessHouse$GameWriter", "writeMarks", "(I)V"⟩, 3) := ⟨⟨by decide +kernel, by decide +kernel⟩, List.mem_of_getElem? (i := 174) (by decide +kernel), List.mem_of_getElem? (i := 1198) (by decide +kernel), List.mem_of_getElem? (i := 1199) (by decide +kernel)⟩
theorem lw_p57 : lw_okq (⟨"ChessHouse", "answerFen", "()V"⟩, 15) := ⟨⟨by decide +kernel, by decide +kernel⟩, List.mem_of_getElem? (i := 34) (by decide +kernel), List.mem_of_getElem? (i := 1210) (by decide +kernel), List.mem_of_getElem? (i := 1211) (by decide +kernel)⟩
theorem lw_p58 : lw_okq (⟨"ChessHouse", "answerMoves", "()V"⟩, 15) := ⟨⟨by decide +kernel, by decide +kernel⟩, List.mem_of_getElem? (i := 34) (by decide +kernel), List.mem_of_getElem? (i := 1225) (by decide +kernel), List.mem_of_getElem? (i := 1226) (by decide +kernel)⟩
theorem lw_p59 : lw_okq (⟨"ChessHouse", "answerList", "(I)V"⟩, 15) := ⟨⟨by decide +kernel, by decide +kernel⟩, List.mem_of_getElem? (i := 34) (by decide +kernel), List.mem_of_getElem? (i := 1234) (by decide +kernel), List.mem_of_getElem? (i := 1235) (by decide +kernel)⟩
theorem lw_p60 : lw_okq (⟨"ChessHouse", "answerOthers", "()V"⟩, 15) := ⟨⟨by decide +kernel, by decide +kernel⟩, List.mem_of_getElem? (i := 34) (by decide +kernel), List.mem_of_getElem? (i := 1239) (by decide +kernel), List.mem_of_getElem? (i := 1240) (by decide +kernel)⟩
theorem lw_p61 : lw_okq (⟨"ChessHouse", "play", "()V"⟩, 15) := ⟨⟨by decide +kernel, by decide +kernel⟩, List.mem_of_getElem? (i := 34) (by decide +kernel), List.mem_of_getElem? (i := 1243) (by decide +kernel), List.mem_of_getElem? (i := 1244) (by decide +kernel)⟩
theorem lw_p62 : lw_okq (⟨"ChessHouse$Game", "deep", "(I)I"⟩, 19) := ⟨⟨by decide +kernel, by decide +kernel⟩, List.mem_of_getElem? (i := 307) (by decide +kernel), List.mem_of_getElem? (i := 1254) (by decide +kernel), List.mem_of_getElem? (i := 1255) (by decide +kernel)⟩
theorem lw_p63 : lw_okq (⟨"ChessHouse", "back", "()V"⟩, 15) := ⟨⟨by decide +kernel, by decide +kernel⟩, List.mem_of_getElem? (i := 34) (by decide +kernel), List.mem_of_getElem? (i := 1260) (by decide +kernel), List.mem_of_getElem? (i := 1261) (by decide +kernel)⟩
def lw_privs_4 : List (MethodName × Nat) := [(⟨"ChessHouse", "answerGame", "(I)V"⟩, 15), (⟨"ChessHouse", "answerNumber", "(J)V"⟩, 15), (⟨"ChessHouse$GameWriter", "writeTags", "()V"⟩, 3), (⟨"ChessHouse$GameWriter", "writeRemark", "(I)Z"⟩, 3), (⟨"ChessHouse$GameWriter", "writeGap", "()V"⟩, 3), (⟨"ChessHouse$GameWriter", "writeLine", "(II)V"⟩, 3), (⟨"ChessHouse$GameWriter", "writeNumber", "(LChessHouse$Board;)V"⟩, 3), (⟨"ChessHouse$Signs", "tellApart", "(LChessHouse$Board;ILChessHouse$Bytes;)V"⟩, 11), (⟨"ChessHouse$GameWriter", "writeMarks", "(I)V"⟩, 3), (⟨"ChessHouse", "answerFen", "()V"⟩, 15), (⟨"ChessHouse", "answerMoves", "()V"⟩, 15), (⟨"ChessHouse", "answerList", "(I)V"⟩, 15), (⟨"ChessHouse", "answerOthers", "()V"⟩, 15), (⟨"ChessHouse", "play", "()V"⟩, 15), (⟨"ChessHouse$Game", "deep", "(I)I"⟩, 19), (⟨"ChessHouse", "back", "()V"⟩, 15)]
theorem lw_r4 : ∀ q ∈ lw_privs_4, lw_okq q := List.forall_mem_cons.mpr ⟨lw_p48, List.forall_mem_cons.mpr ⟨lw_p49, List.forall_mem_cons.mpr ⟨lw_p50, List.forall_mem_cons.mpr ⟨lw_p51, List.forall_mem_cons.mpr ⟨lw_p52, List.forall_mem_cons.mpr ⟨lw_p53, List.forall_mem_cons.mpr ⟨lw_p54, List.forall_mem_cons.mpr ⟨lw_p55, List.forall_mem_cons.mpr ⟨lw_p56, List.forall_mem_cons.mpr ⟨lw_p57, List.forall_mem_cons.mpr ⟨lw_p58, List.forall_mem_cons.mpr ⟨lw_p59, List.forall_mem_cons.mpr ⟨lw_p60, List.forall_mem_cons.mpr ⟨lw_p61, List.forall_mem_cons.mpr ⟨lw_p62, List.forall_mem_cons.mpr ⟨lw_p63, fun _ h => absurd h List.not_mem_nil⟩⟩⟩⟩⟩⟩⟩⟩⟩⟩⟩⟩⟩⟩⟩⟩
theorem lw_p64 : lw_okq (⟨"ChessHouse", "go", "()V"⟩, 15) := ⟨⟨by decide +kernel, by decide +kernel⟩, List.mem_of_getElem? (i := 34) (by decide +kernel), List.mem_of_getElem? (i := 1271) (by decide +kernel), List.mem_of_getElem? (i := 1272) (by decide +kernel)⟩
theorem lw_p65 : lw_okq (⟨"ChessHouse", "mark", "()V"⟩, 15) := ⟨⟨by decide +kernel, by decide +kernel⟩, List.mem_of_getElem? (i := 34) (by decide +kernel), List.mem_of_getElem? (i := 1275) (by decide +kernel), List.mem_of_getElem? (i := 1276) (by decide +kernel)⟩
theorem lw_p66 : lw_okq (⟨"ChessHouse", "say", "()V"⟩, 15) := ⟨⟨by decide +kernel, by decide +kernel⟩, List.mem_of_getElem? (i := 34) (by decide +kernel), List.mem_of_getElem? (i := 1280) (by decide +kernel), List.mem_of_getElem? (i := 1281) (by decide +kernel)⟩
theorem lw_p67 : lw_okq (⟨"ChessHouse", "lead", "()V"⟩, 15) := ⟨⟨by decide +kernel, by decide +kernel⟩, List.mem_of_getElem? (i := 34) (by decide +kernel), List.mem_of_getElem? (i := 1285) (by decide +kernel), List.mem_of_getElem? (i := 1286) (by decide +kernel)⟩
theorem lw_p68 : lw_okq (⟨"ChessHouse", "endWith", "()V"⟩, 15) := ⟨⟨by decide +kernel, by decide +kernel⟩, List.mem_of_getElem? (i := 34) (by decide +kernel), List.mem_of_getElem? (i := 1298) (by decide +kernel), List.mem_of_getElem? (i := 1299) (by decide +kernel)⟩
theorem lw_p69 : lw_okq (⟨"ChessHouse", "tag", "()V"⟩, 15) := ⟨⟨by decide +kernel, by decide +kernel⟩, List.mem_of_getElem? (i := 34) (by decide +kernel), List.mem_of_getElem? (i := 1304) (by decide +kernel), List.mem_of_getElem? (i := 1305) (by decide +kernel)⟩
theorem lw_p70 : lw_okq (⟨"ChessHouse", "answerState", "()V"⟩, 15) := ⟨⟨by decide +kernel, by decide +kernel⟩, List.mem_of_getElem? (i := 34) (by decide +kernel), List.mem_of_getElem? (i := 1314) (by decide +kernel), List.mem_of_getElem? (i := 1315) (by decide +kernel)⟩
theorem lw_p71 : lw_okq (⟨"ChessHouse", "answerWays", "()V"⟩, 15) := ⟨⟨by decide +kernel, by decide +kernel⟩, List.mem_of_getElem? (i := 34) (by decide +kernel), List.mem_of_getElem? (i := 1327) (by decide +kernel), List.mem_of_getElem? (i := 1328) (by decide +kernel)⟩
theorem lw_p72 : lw_okq (⟨"ChessHouse$Search", "ways", "(LChessHouse$Board;II)J"⟩, 7) := ⟨⟨by decide +kernel, by decide +kernel⟩, List.mem_of_getElem? (i := 195) (by decide +kernel), List.mem_of_getElem? (i := 1338) (by decide +kernel), List.mem_of_getElem? (i := 1339) (by decide +kernel)⟩
theorem lw_p73 : lw_okq (⟨"ChessHouse", "think", "()V"⟩, 15) := ⟨⟨by decide +kernel, by decide +kernel⟩, List.mem_of_getElem? (i := 34) (by decide +kernel), List.mem_of_getElem? (i := 1353) (by decide +kernel), List.mem_of_getElem? (i := 1354) (by decide +kernel)⟩
theorem lw_p74 : lw_okq (⟨"ChessHouse$Search", "value", "(IIIII)I"⟩, 7) := ⟨⟨by decide +kernel, by decide +kernel⟩, List.mem_of_getElem? (i := 195) (by decide +kernel), List.mem_of_getElem? (i := 1370) (by decide +kernel), List.mem_of_getElem? (i := 1371) (by decide +kernel)⟩
theorem lw_p75 : lw_okq (⟨"ChessHouse$Search", "calmValue", "(IIIII)I"⟩, 7) := ⟨⟨by decide +kernel, by decide +kernel⟩, List.mem_of_getElem? (i := 195) (by decide +kernel), List.mem_of_getElem? (i := 1381) (by decide +kernel), List.mem_of_getElem? (i := 1382) (by decide +kernel)⟩
theorem lw_p76 : lw_okq (⟨"ChessHouse$Search", "takingFirst", "(II)I"⟩, 7) := ⟨⟨by decide +kernel, by decide +kernel⟩, List.mem_of_getElem? (i := 195) (by decide +kernel), List.mem_of_getElem? (i := 1387) (by decide +kernel), List.mem_of_getElem? (i := 1388) (by decide +kernel)⟩
theorem lw_p77 : lw_okq (⟨"ChessHouse", "tellSigns", "(I)V"⟩, 15) := ⟨⟨by decide +kernel, by decide +kernel⟩, List.mem_of_getElem? (i := 34) (by decide +kernel), List.mem_of_getElem? (i := 1393) (by decide +kernel), List.mem_of_getElem? (i := 1394) (by decide +kernel)⟩
theorem lw_p78 : lw_okq (⟨"ChessHouse", "test", "()V"⟩, 15) := ⟨⟨by decide +kernel, by decide +kernel⟩, List.mem_of_getElem? (i := 34) (by decide +kernel), List.mem_of_getElem? (i := 1409) (by decide +kernel), List.mem_of_getElem? (i := 1410) (by decide +kernel)⟩
theorem lw_p79 : lw_okq (⟨"ChessHouse", "faultOfSigns", "(I)V"⟩, 15) := ⟨⟨by decide +kernel, by decide +kernel⟩, List.mem_of_getElem? (i := 34) (by decide +kernel), List.mem_of_getElem? (i := 1415) (by decide +kernel), List.mem_of_getElem? (i := 1416) (by decide +kernel)⟩
def lw_privs_5 : List (MethodName × Nat) := [(⟨"ChessHouse", "go", "()V"⟩, 15), (⟨"ChessHouse", "mark", "()V"⟩, 15), (⟨"ChessHouse", "say", "()V"⟩, 15), (⟨"ChessHouse", "lead", "()V"⟩, 15), (⟨"ChessHouse", "endWith", "()V"⟩, 15), (⟨"ChessHouse", "tag", "()V"⟩, 15), (⟨"ChessHouse", "answerState", "()V"⟩, 15), (⟨"ChessHouse", "answerWays", "()V"⟩, 15), (⟨"ChessHouse$Search", "ways", "(LChessHouse$Board;II)J"⟩, 7), (⟨"ChessHouse", "think", "()V"⟩, 15), (⟨"ChessHouse$Search", "value", "(IIIII)I"⟩, 7), (⟨"ChessHouse$Search", "calmValue", "(IIIII)I"⟩, 7), (⟨"ChessHouse$Search", "takingFirst", "(II)I"⟩, 7), (⟨"ChessHouse", "tellSigns", "(I)V"⟩, 15), (⟨"ChessHouse", "test", "()V"⟩, 15), (⟨"ChessHouse", "faultOfSigns", "(I)V"⟩, 15)]
theorem lw_r5 : ∀ q ∈ lw_privs_5, lw_okq q := List.forall_mem_cons.mpr ⟨lw_p64, List.forall_mem_cons.mpr ⟨lw_p65, List.forall_mem_cons.mpr ⟨lw_p66, List.forall_mem_cons.mpr ⟨lw_p67, List.forall_mem_cons.mpr ⟨lw_p68, List.forall_mem_cons.mpr ⟨lw_p69, List.forall_mem_cons.mpr ⟨lw_p70, List.forall_mem_cons.mpr ⟨lw_p71, List.forall_mem_cons.mpr ⟨lw_p72, List.forall_mem_cons.mpr ⟨lw_p73, List.forall_mem_cons.mpr ⟨lw_p74, List.forall_mem_cons.mpr ⟨lw_p75, List.forall_mem_cons.mpr ⟨lw_p76, List.forall_mem_cons.mpr ⟨lw_p77, List.forall_mem_cons.mpr ⟨lw_p78, List.forall_mem_cons.mpr ⟨lw_p79, fun _ h => absurd h List.not_mem_nil⟩⟩⟩⟩⟩⟩⟩⟩⟩⟩⟩⟩⟩⟩⟩⟩
theorem lw_p80 : lw_okq (⟨"ChessHouse", "table", "()V"⟩, 15) := ⟨⟨by decide +kernel, by decide +kernel⟩, List.mem_of_getElem? (i := 34) (by decide +kernel), List.mem_of_getElem? (i := 1423) (by decide +kernel), List.mem_of_getElem? (i := 1424) (by decide +kernel)⟩
theorem lw_p81 : lw_okq (⟨"ChessHouse", "answerKeys", "()V"⟩, 15) := ⟨⟨by decide +kernel, by decide +kernel⟩, List.mem_of_getElem? (i := 34) (by decide +kernel), List.mem_of_getElem? (i := 1427) (by decide +kernel), List.mem_of_getElem? (i := 1428) (by decide +kernel)⟩
theorem lw_p82 : lw_okq (⟨"ChessHouse", "problemMoves", "()I"⟩, 15) := ⟨⟨by decide +kernel, by decide +kernel⟩, List.mem_of_getElem? (i := 34) (by decide +kernel), List.mem_of_getElem? (i := 1431) (by decide +kernel), List.mem_of_getElem? (i := 1432) (by decide +kernel)⟩
theorem lw_p83 : lw_okq (⟨"ChessHouse", "isTooMuchProblem", "(I)Z"⟩, 15) := ⟨⟨by decide +kernel, by decide +kernel⟩, List.mem_of_getElem? (i := 34) (by decide +kernel), List.mem_of_getElem? (i := 1443) (by decide +kernel), List.mem_of_getElem? (i := 1444) (by decide +kernel)⟩
theorem lw_p84 : lw_okq (⟨"ChessHouse$Problems", "refuter", "(III)I"⟩, 10) := ⟨⟨by decide +kernel, by decide +kernel⟩, List.mem_of_getElem? (i := 225) (by decide +kernel), List.mem_of_getElem? (i := 1447) (by decide +kernel), List.mem_of_getElem? (i := 1448) (by decide +kernel)⟩
theorem lw_p85 : lw_okq (⟨"ChessHouse$Problems", "isBeaten", "(I)Z"⟩, 10) := ⟨⟨by decide +kernel, by decide +kernel⟩, List.mem_of_getElem? (i := 225) (by decide +kernel), List.mem_of_getElem? (i := 1454) (by decide +kernel), List.mem_of_getElem? (i := 1455) (by decide +kernel)⟩
theorem lw_p86 : lw_okq (⟨"ChessHouse$Problems", "isSolvable", "(II)Z"⟩, 10) := ⟨⟨by decide +kernel, by decide +kernel⟩, List.mem_of_getElem? (i := 225) (by decide +kernel), List.mem_of_getElem? (i := 1459) (by decide +kernel), List.mem_of_getElem? (i := 1460) (by decide +kernel)⟩
theorem lw_p87 : lw_okq (⟨"ChessHouse", "answerLeast", "()V"⟩, 15) := ⟨⟨by decide +kernel, by decide +kernel⟩, List.mem_of_getElem? (i := 34) (by decide +kernel), List.mem_of_getElem? (i := 1465) (by decide +kernel), List.mem_of_getElem? (i := 1466) (by decide +kernel)⟩
theorem lw_p88 : lw_okq (⟨"ChessHouse", "answerRefuter", "()V"⟩, 15) := ⟨⟨by decide +kernel, by decide +kernel⟩, List.mem_of_getElem? (i := 34) (by decide +kernel), List.mem_of_getElem? (i := 1470) (by decide +kernel), List.mem_of_getElem? (i := 1471) (by decide +kernel)⟩
theorem lw_p89 : lw_okq (⟨"ChessHouse", "answerHelp", "()V"⟩, 15) := ⟨⟨by decide +kernel, by decide +kernel⟩, List.mem_of_getElem? (i := 34) (by decide +kernel), List.mem_of_getElem? (i := 1476) (by decide +kernel), List.mem_of_getElem? (i := 1477) (by decide +kernel)⟩
theorem lw_p90 : lw_okq (⟨"ChessHouse", "helpMoves", "()I"⟩, 15) := ⟨⟨by decide +kernel, by decide +kernel⟩, List.mem_of_getElem? (i := 34) (by decide +kernel), List.mem_of_getElem? (i := 1480) (by decide +kernel), List.mem_of_getElem? (i := 1481) (by decide +kernel)⟩
theorem lw_p91 : lw_okq (⟨"ChessHouse", "isTooMuchHelp", "(I)Z"⟩, 15) := ⟨⟨by decide +kernel, by decide +kernel⟩, List.mem_of_getElem? (i := 34) (by decide +kernel), List.mem_of_getElem? (i := 1484) (by decide +kernel), List.mem_of_getElem? (i := 1485) (by decide +kernel)⟩
theorem lw_p92 : lw_okq (⟨"ChessHouse$Problems", "help", "(II)V"⟩, 10) := ⟨⟨by decide +kernel, by decide +kernel⟩, List.mem_of_getElem? (i := 225) (by decide +kernel), List.mem_of_getElem? (i := 1488) (by decide +kernel), List.mem_of_getElem? (i := 1489) (by decide +kernel)⟩
theorem lw_p93 : lw_okq (⟨"ChessHouse", "answerLine", "()V"⟩, 15) := ⟨⟨by decide +kernel, by decide +kernel⟩, List.mem_of_getElem? (i := 34) (by decide +kernel), List.mem_of_getElem? (i := 1493) (by decide +kernel), List.mem_of_getElem? (i := 1494) (by decide +kernel)⟩
theorem lw_p94 : lw_okq (⟨"ChessHouse", "answerEnds", "()V"⟩, 15) := ⟨⟨by decide +kernel, by decide +kernel⟩, List.mem_of_getElem? (i := 34) (by decide +kernel), List.mem_of_getElem? (i := 1497) (by decide +kernel), List.mem_of_getElem? (i := 1498) (by decide +kernel)⟩
theorem lw_p95 : lw_okq (⟨"ChessHouse$Endings", "build", "(I)[B"⟩, 10) := ⟨⟨by decide +kernel, by decide +kernel⟩, List.mem_of_getElem? (i := 268) (by decide +kernel), List.mem_of_getElem? (i := 1512) (by decide +kernel), List.mem_of_getElem? (i := 1513) (by decide +kernel)⟩
def lw_privs_6 : List (MethodName × Nat) := [(⟨"ChessHouse", "table", "()V"⟩, 15), (⟨"ChessHouse", "answerKeys", "()V"⟩, 15), (⟨"ChessHouse", "problemMoves", "()I"⟩, 15), (⟨"ChessHouse", "isTooMuchProblem", "(I)Z"⟩, 15), (⟨"ChessHouse$Problems", "refuter", "(III)I"⟩, 10), (⟨"ChessHouse$Problems", "isBeaten", "(I)Z"⟩, 10), (⟨"ChessHouse$Problems", "isSolvable", "(II)Z"⟩, 10), (⟨"ChessHouse", "answerLeast", "()V"⟩, 15), (⟨"ChessHouse", "answerRefuter", "()V"⟩, 15), (⟨"ChessHouse", "answerHelp", "()V"⟩, 15), (⟨"ChessHouse", "helpMoves", "()I"⟩, 15), (⟨"ChessHouse", "isTooMuchHelp", "(I)Z"⟩, 15), (⟨"ChessHouse$Problems", "help", "(II)V"⟩, 10), (⟨"ChessHouse", "answerLine", "()V"⟩, 15), (⟨"ChessHouse", "answerEnds", "()V"⟩, 15), (⟨"ChessHouse$Endings", "build", "(I)[B"⟩, 10)]
theorem lw_r6 : ∀ q ∈ lw_privs_6, lw_okq q := List.forall_mem_cons.mpr ⟨lw_p80, List.forall_mem_cons.mpr ⟨lw_p81, List.forall_mem_cons.mpr ⟨lw_p82, List.forall_mem_cons.mpr ⟨lw_p83, List.forall_mem_cons.mpr ⟨lw_p84, List.forall_mem_cons.mpr ⟨lw_p85, List.forall_mem_cons.mpr ⟨lw_p86, List.forall_mem_cons.mpr ⟨lw_p87, List.forall_mem_cons.mpr ⟨lw_p88, List.forall_mem_cons.mpr ⟨lw_p89, List.forall_mem_cons.mpr ⟨lw_p90, List.forall_mem_cons.mpr ⟨lw_p91, List.forall_mem_cons.mpr ⟨lw_p92, List.forall_mem_cons.mpr ⟨lw_p93, List.forall_mem_cons.mpr ⟨lw_p94, List.forall_mem_cons.mpr ⟨lw_p95, fun _ h => absurd h List.not_mem_nil⟩⟩⟩⟩⟩⟩⟩⟩⟩⟩⟩⟩⟩⟩⟩⟩
theorem lw_p96 : lw_okq (⟨"ChessHouse$Endings", "seed", "()V"⟩, 10) := ⟨⟨by decide +kernel, by decide +kernel⟩, List.mem_of_getElem? (i := 268) (by decide +kernel), List.mem_of_getElem? (i := 1518) (by decide +kernel), List.mem_of_getElem? (i := 1519) (by decide +kernel)⟩
theorem lw_p97 : lw_okq (⟨"ChessHouse$Endings", "hits", "(III)Z"⟩, 10) := ⟨⟨by decide +kernel, by decide +kernel⟩, List.mem_of_getElem? (i := 268) (by decide +kernel), List.mem_of_getElem? (i := 1525) (by decide +kernel), List.mem_of_getElem? (i := 1526) (by decide +kernel)⟩
theorem lw_p98 : lw_okq (⟨"ChessHouse$Endings", "isLost", "(III)Z"⟩, 10) := ⟨⟨by decide +kernel, by decide +kernel⟩, List.mem_of_getElem? (i := 268) (by decide +kernel), List.mem_of_getElem? (i := 1529) (by decide +kernel), List.mem_of_getElem? (i := 1530) (by decide +kernel)⟩
theorem lw_p99 : lw_okq (⟨"ChessHouse$Endings", "mark", "(II)V"⟩, 10) := ⟨⟨by decide +kernel, by decide +kernel⟩, List.mem_of_getElem? (i := 268) (by decide +kernel), List.mem_of_getElem? (i := 1541) (by decide +kernel), List.mem_of_getElem? (i := 1542) (by decide +kernel)⟩
theorem lw_p100 : lw_okq (⟨"ChessHouse$Endings", "distanceAt", "(IIIII)I"⟩, 10) := ⟨⟨by decide +kernel, by decide +kernel⟩, List.mem_of_getElem? (i := 268) (by decide +kernel), List.mem_of_getElem? (i := 1545) (by decide +kernel), List.mem_of_getElem? (i := 1546) (by decide +kernel)⟩
theorem lw_p101 : lw_okq (⟨"ChessHouse$Endings", "bringIn", "(I)V"⟩, 10) := ⟨⟨by decide +kernel, by decide +kernel⟩, List.mem_of_getElem? (i := 268) (by decide +kernel), List.mem_of_getElem? (i := 1549) (by decide +kernel), List.mem_of_getElem? (i := 1550) (by decide +kernel)⟩
theorem lw_p102 : lw_okq (⟨"ChessHouse$Endings", "blackBefore", "(IIII)V"⟩, 10) := ⟨⟨by decide +kernel, by decide +kernel⟩, List.mem_of_getElem? (i := 268) (by decide +kernel), List.mem_of_getElem? (i := 1554) (by decide +kernel), List.mem_of_getElem? (i := 1555) (by decide +kernel)⟩
theorem lw_p103 : lw_okq (⟨"ChessHouse$Endings", "whiteBefore", "(IIII)V"⟩, 10) := ⟨⟨by decide +kernel, by decide +kernel⟩, List.mem_of_getElem? (i := 268) (by decide +kernel), List.mem_of_getElem? (i := 1558) (by decide +kernel), List.mem_of_getElem? (i := 1559) (by decide +kernel)⟩
theorem lw_p104 : lw_okq (⟨"ChessHouse$Endings", "manBefore", "(IIII)V"⟩, 10) := ⟨⟨by decide +kernel, by decide +kernel⟩, List.mem_of_getElem? (i := 268) (by decide +kernel), List.mem_of_getElem? (i := 1562) (by decide +kernel), List.mem_of_getElem? (i := 1563) (by decide +kernel)⟩
theorem lw_p105 : lw_okq (⟨"ChessHouse$Endings", "distanceOf", "(LChessHouse$Board;I)I"⟩, 10) := ⟨⟨by decide +kernel, by decide +kernel⟩, List.mem_of_getElem? (i := 268) (by decide +kernel), List.mem_of_getElem? (i := 1570) (by decide +kernel), List.mem_of_getElem? (i := 1571) (by decide +kernel)⟩
theorem lw_p106 : lw_okq (⟨"ChessHouseModel$Texts", "clearGame", "(I)V"⟩, 40) := ⟨⟨by decide +kernel, by decide +kernel⟩, List.mem_of_getElem? (i := 1608) (by decide +kernel), List.mem_of_getElem? (i := 1617) (by decide +kernel), List.mem_of_getElem? (i := 1618) (by decide +kernel)⟩
theorem lw_p107 : lw_okq (⟨"ChessHouseModel$Texts", "clearNode", "(I)V"⟩, 40) := ⟨⟨by decide +kernel, by decide +kernel⟩, List.mem_of_getElem? (i := 1608) (by decide +kernel), List.mem_of_getElem? (i := 1621) (by decide +kernel), List.mem_of_getElem? (i := 1622) (by decide +kernel)⟩
theorem lw_p108 : lw_okq (⟨"ChessHouseModel$Texts", "usual", "(I)V"⟩, 40) := ⟨⟨by decide +kernel, by decide +kernel⟩, List.mem_of_getElem? (i := 1608) (by decide +kernel), List.mem_of_getElem? (i := 1625) (by decide +kernel), List.mem_of_getElem? (i := 1626) (by decide +kernel)⟩
theorem lw_p109 : lw_okq (⟨"ChessHouseModel$Texts", "start", "(I)V"⟩, 40) := ⟨⟨by decide +kernel, by decide +kernel⟩, List.mem_of_getElem? (i := 1608) (by decide +kernel), List.mem_of_getElem? (i := 1629) (by decide +kernel), List.mem_of_getElem? (i := 1630) (by decide +kernel)⟩
theorem lw_p110 : lw_okq (⟨"ChessHouseModel$Texts", "place", "(II)V"⟩, 40) := ⟨⟨by decide +kernel, by decide +kernel⟩, List.mem_of_getElem? (i := 1608) (by decide +kernel), List.mem_of_getElem? (i := 1633) (by decide +kernel), List.mem_of_getElem? (i := 1634) (by decide +kernel)⟩
theorem lw_p111 : lw_okq (⟨"ChessHouseModel$Texts", "make", "(I)V"⟩, 40) := ⟨⟨by decide +kernel, by decide +kernel⟩, List.mem_of_getElem? (i := 1608) (by decide +kernel), List.mem_of_getElem? (i := 1637) (by decide +kernel), List.mem_of_getElem? (i := 1638) (by decide +kernel)⟩
def lw_privs_7 : List (MethodName × Nat) := [(⟨"ChessHouse$Endings", "seed", "()V"⟩, 10), (⟨"ChessHouse$Endings", "hits", "(III)Z"⟩, 10), (⟨"ChessHouse$Endings", "isLost", "(III)Z"⟩, 10), (⟨"ChessHouse$Endings", "mark", "(II)V"⟩, 10), (⟨"ChessHouse$Endings", "distanceAt", "(IIIII)I"⟩, 10), (⟨"ChessHouse$Endings", "bringIn", "(I)V"⟩, 10), (⟨"ChessHouse$Endings", "blackBefore", "(IIII)V"⟩, 10), (⟨"ChessHouse$Endings", "whiteBefore", "(IIII)V"⟩, 10), (⟨"ChessHouse$Endings", "manBefore", "(IIII)V"⟩, 10), (⟨"ChessHouse$Endings", "distanceOf", "(LChessHouse$Board;I)I"⟩, 10), (⟨"ChessHouseModel$Texts", "clearGame", "(I)V"⟩, 40), (⟨"ChessHouseModel$Texts", "clearNode", "(I)V"⟩, 40), (⟨"ChessHouseModel$Texts", "usual", "(I)V"⟩, 40), (⟨"ChessHouseModel$Texts", "start", "(I)V"⟩, 40), (⟨"ChessHouseModel$Texts", "place", "(II)V"⟩, 40), (⟨"ChessHouseModel$Texts", "make", "(I)V"⟩, 40)]
theorem lw_r7 : ∀ q ∈ lw_privs_7, lw_okq q := List.forall_mem_cons.mpr ⟨lw_p96, List.forall_mem_cons.mpr ⟨lw_p97, List.forall_mem_cons.mpr ⟨lw_p98, List.forall_mem_cons.mpr ⟨lw_p99, List.forall_mem_cons.mpr ⟨lw_p100, List.forall_mem_cons.mpr ⟨lw_p101, List.forall_mem_cons.mpr ⟨lw_p102, List.forall_mem_cons.mpr ⟨lw_p103, List.forall_mem_cons.mpr ⟨lw_p104, List.forall_mem_cons.mpr ⟨lw_p105, List.forall_mem_cons.mpr ⟨lw_p106, List.forall_mem_cons.mpr ⟨lw_p107, List.forall_mem_cons.mpr ⟨lw_p108, List.forall_mem_cons.mpr ⟨lw_p109, List.forall_mem_cons.mpr ⟨lw_p110, List.forall_mem_cons.mpr ⟨lw_p111, fun _ h => absurd h List.not_mem_nil⟩⟩⟩⟩⟩⟩⟩⟩⟩⟩⟩⟩⟩⟩⟩⟩
theorem lw_p112 : lw_okq (⟨"ChessHouseModel$Texts", "isTaking", "(I)Z"⟩, 40) := ⟨⟨by decide +kernel, by decide +kernel⟩, List.mem_of_getElem? (i := 1608) (by decide +kernel), List.mem_of_getElem? (i := 1644) (by decide +kernel), List.mem_of_getElem? (i := 1645) (by decide +kernel)⟩
theorem lw_p113 : lw_okq (⟨"ChessHouseModel$Texts", "lose", "(I)V"⟩, 40) := ⟨⟨by decide +kernel, by decide +kernel⟩, List.mem_of_getElem? (i := 1608) (by decide +kernel), List.mem_of_getElem? (i := 1648) (by decide +kernel), List.mem_of_getElem? (i := 1649) (by decide +kernel)⟩
theorem lw_p114 : lw_okq (⟨"ChessHouseModel$Texts", "stands", "(II)Z"⟩, 40) := ⟨⟨by decide +kernel, by decide +kernel⟩, List.mem_of_getElem? (i := 1608) (by decide +kernel), List.mem_of_getElem? (i := 1655) (by decide +kernel), List.mem_of_getElem? (i := 1656) (by decide +kernel)⟩
theorem lw_p115 : lw_okq (⟨"ChessHouseModel$Texts", "findMoves", "()V"⟩, 40) := ⟨⟨by decide +kernel, by decide +kernel⟩, List.mem_of_getElem? (i := 1608) (by decide +kernel), List.mem_of_getElem? (i := 1659) (by decide +kernel), List.mem_of_getElem? (i := 1660) (by decide +kernel)⟩
theorem lw_p116 : lw_okq (⟨"ChessHouseModel$Texts", "goes", "(II)Z"⟩, 40) := ⟨⟨by decide +kernel, by decide +kernel⟩, List.mem_of_getElem? (i := 1608) (by decide +kernel), List.mem_of_getElem? (i := 1666) (by decide +kernel), List.mem_of_getElem? (i := 1667) (by decide +kernel)⟩
theorem lw_p117 : lw_okq (⟨"ChessHouseModel$Texts", "pawnGoes", "(II)Z"⟩, 40) := ⟨⟨by decide +kernel, by decide +kernel⟩, List.mem_of_getElem? (i := 1608) (by decide +kernel), List.mem_of_getElem? (i := 1670) (by decide +kernel), List.mem_of_getElem? (i := 1671) (by decide +kernel)⟩
theorem lw_p118 : lw_okq (⟨"ChessHouseModel$Texts", "mayCastle", "(I)Z"⟩, 40) := ⟨⟨by decide +kernel, by decide +kernel⟩, List.mem_of_getElem? (i := 1608) (by decide +kernel), List.mem_of_getElem? (i := 1674) (by decide +kernel), List.mem_of_getElem? (i := 1675) (by decide +kernel)⟩
theorem lw_p119 : lw_okq (⟨"ChessHouseModel$Texts", "isClear", "(II)Z"⟩, 40) := ⟨⟨by decide +kernel, by decide +kernel⟩, List.mem_of_getElem? (i := 1608) (by decide +kernel), List.mem_of_getElem? (i := 1678) (by decide +kernel), List.mem_of_getElem? (i := 1679) (by decide +kernel)⟩
theorem lw_p120 : lw_okq (⟨"ChessHouseModel$Texts", "isAttacked", "(II)Z"⟩, 40) := ⟨⟨by decide +kernel, by decide +kernel⟩, List.mem_of_getElem? (i := 1608) (by decide +kernel), List.mem_of_getElem? (i := 1682) (by decide +kernel), List.mem_of_getElem? (i := 1683) (by decide +kernel)⟩
theorem lw_p121 : lw_okq (⟨"ChessHouseModel$Texts", "met", "(III)I"⟩, 40) := ⟨⟨by decide +kernel, by decide +kernel⟩, List.mem_of_getElem? (i := 1608) (by decide +kernel), List.mem_of_getElem? (i := 1686) (by decide +kernel), List.mem_of_getElem? (i := 1687) (by decide +kernel)⟩
theorem lw_p122 : lw_okq (⟨"ChessHouseModel$Texts", "isSafe", "(I)Z"⟩, 40) := ⟨⟨by decide +kernel, by decide +kernel⟩, List.mem_of_getElem? (i := 1608) (by decide +kernel), List.mem_of_getElem? (i := 1690) (by decide +kernel), List.mem_of_getElem? (i := 1691) (by decide +kernel)⟩
theorem lw_p123 : lw_okq (⟨"ChessHouseModel$Texts", "keep", "()V"⟩, 40) := ⟨⟨by decide +kernel, by decide +kernel⟩, List.mem_of_getElem? (i := 1608) (by decide +kernel), List.mem_of_getElem? (i := 1694) (by decide +kernel), List.mem_of_getElem? (i := 1695) (by decide +kernel)⟩
theorem lw_p124 : lw_okq (⟨"ChessHouseModel$Texts", "isInCheck", "(I)Z"⟩, 40) := ⟨⟨by decide +kernel, by decide +kernel⟩, List.mem_of_getElem? (i := 1608) (by decide +kernel), List.mem_of_getElem? (i := 1698) (by decide +kernel), List.mem_of_getElem? (i := 1699) (by decide +kernel)⟩
theorem lw_p125 : lw_okq (⟨"ChessHouseModel$Texts", "kingOf", "(I)I"⟩, 40) := ⟨⟨by decide +kernel, by decide +kernel⟩, List.mem_of_getElem? (i := 1608) (by decide +kernel), List.mem_of_getElem? (i := 1702) (by decide +kernel), List.mem_of_getElem? (i := 1703) (by decide +kernel)⟩
theorem lw_p126 : lw_okq (⟨"ChessHouseModel$Texts", "bringBack", "()V"⟩, 40) := ⟨⟨by decide +kernel, by decide +kernel⟩, List.mem_of_getElem? (i := 1608) (by decide +kernel), List.mem_of_getElem? (i := 1706) (by decide +kernel), List.mem_of_getElem? (i := 1707) (by decide +kernel)⟩
theorem lw_p127 : lw_okq (⟨"ChessHouseModel", "lay", "(I)V"⟩, 19) := ⟨⟨by decide +kernel, by decide +kernel⟩, List.mem_of_getElem? (i := 1601) (by decide +kernel), List.mem_of_getElem? (i := 2068) (by decide +kernel), List.mem_of_getElem? (i := 2069) (by decide +kernel)⟩
def lw_privs_8 : List (MethodName × Nat) := [(⟨"ChessHouseModel$Texts", "isTaking", "(I)Z"⟩, 40), (⟨"ChessHouseModel$Texts", "lose", "(I)V"⟩, 40), (⟨"ChessHouseModel$Texts", "stands", "(II)Z"⟩, 40), (⟨"ChessHouseModel$Texts", "findMoves", "()V"⟩, 40), (⟨"ChessHouseModel$Texts", "goes", "(II)Z"⟩, 40), (⟨"ChessHouseModel$Texts", "pawnGoes", "(II)Z"⟩, 40), (⟨"ChessHouseModel$Texts", "mayCastle", "(I)Z"⟩, 40), (⟨"ChessHouseModel$Texts", "isClear", "(II)Z"⟩, 40), (⟨"ChessHouseModel$Texts", "isAttacked", "(II)Z"⟩, 40), (⟨"ChessHouseModel$Texts", "met", "(III)I"⟩, 40), (⟨"ChessHouseModel$Texts", "isSafe", "(I)Z"⟩, 40), (⟨"ChessHouseModel$Texts", "keep", "()V"⟩, 40), (⟨"ChessHouseModel$Texts", "isInCheck", "(I)Z"⟩, 40), (⟨"ChessHouseModel$Texts", "kingOf", "(I)I"⟩, 40), (⟨"ChessHouseModel$Texts", "bringBack", "()V"⟩, 40), (⟨"ChessHouseModel", "lay", "(I)V"⟩, 19)]
theorem lw_r8 : ∀ q ∈ lw_privs_8, lw_okq q := List.forall_mem_cons.mpr ⟨lw_p112, List.forall_mem_cons.mpr ⟨lw_p113, List.forall_mem_cons.mpr ⟨lw_p114, List.forall_mem_cons.mpr ⟨lw_p115, List.forall_mem_cons.mpr ⟨lw_p116, List.forall_mem_cons.mpr ⟨lw_p117, List.forall_mem_cons.mpr ⟨lw_p118, List.forall_mem_cons.mpr ⟨lw_p119, List.forall_mem_cons.mpr ⟨lw_p120, List.forall_mem_cons.mpr ⟨lw_p121, List.forall_mem_cons.mpr ⟨lw_p122, List.forall_mem_cons.mpr ⟨lw_p123, List.forall_mem_cons.mpr ⟨lw_p124, List.forall_mem_cons.mpr ⟨lw_p125, List.forall_mem_cons.mpr ⟨lw_p126, List.forall_mem_cons.mpr ⟨lw_p127, fun _ h => absurd h List.not_mem_nil⟩⟩⟩⟩⟩⟩⟩⟩⟩⟩⟩⟩⟩⟩⟩⟩
theorem lw_p128 : lw_okq (⟨"ChessHouseModel", "takeLine", "()V"⟩, 19) := ⟨⟨by decide +kernel, by decide +kernel⟩, List.mem_of_getElem? (i := 1601) (by decide +kernel), List.mem_of_getElem? (i := 2076) (by decide +kernel), List.mem_of_getElem? (i := 2077) (by decide +kernel)⟩
theorem lw_p129 : lw_okq (⟨"ChessHouseModel", "command", "()V"⟩, 19) := ⟨⟨by decide +kernel, by decide +kernel⟩, List.mem_of_getElem? (i := 1601) (by decide +kernel), List.mem_of_getElem? (i := 2080) (by decide +kernel), List.mem_of_getElem? (i := 2081) (by decide +kernel)⟩
theorem lw_p130 : lw_okq (⟨"ChessHouseModel", "isOfText", "()Z"⟩, 19) := ⟨⟨by decide +kernel, by decide +kernel⟩, List.mem_of_getElem? (i := 1601) (by decide +kernel), List.mem_of_getElem? (i := 2084) (by decide +kernel), List.mem_of_getElem? (i := 2085) (by decide +kernel)⟩
theorem lw_p131 : lw_okq (⟨"ChessHouseModel", "fault", "(I)V"⟩, 19) := ⟨⟨by decide +kernel, by decide +kernel⟩, List.mem_of_getElem? (i := 1601) (by decide +kernel), List.mem_of_getElem? (i := 2091) (by decide +kernel), List.mem_of_getElem? (i := 2092) (by decide +kernel)⟩
theorem lw_p132 : lw_okq (⟨"ChessHouseModel", "fault", "(III)V"⟩, 19) := ⟨⟨by decide +kernel, by decide +kernel⟩, List.mem_of_getElem? (i := 1601) (by decide +kernel), List.mem_of_getElem? (i := 2095) (by decide +kernel), List.mem_of_getElem? (i := 2096) (by decide +kernel)⟩
theorem lw_p133 : lw_okq (⟨"ChessHouseModel", "put", "(C)V"⟩, 19) := ⟨⟨by decide +kernel, by decide +kernel⟩, List.mem_of_getElem? (i := 1601) (by decide +kernel), List.mem_of_getElem? (i := 2099) (by decide +kernel), List.mem_of_getElem? (i := 2100) (by decide +kernel)⟩
theorem lw_p134 : lw_okq (⟨"ChessHouseModel", "say", "(J)V"⟩, 19) := ⟨⟨by decide +kernel, by decide +kernel⟩, List.mem_of_getElem? (i := 1601) (by decide +kernel), List.mem_of_getElem? (i := 2103) (by decide +kernel), List.mem_of_getElem? (i := 2104) (by decide +kernel)⟩
theorem lw_p135 : lw_okq (⟨"ChessHouseModel", "putNumber", "(J)V"⟩, 19) := ⟨⟨by decide +kernel, by decide +kernel⟩, List.mem_of_getElem? (i := 1601) (by decide +kernel), List.mem_of_getElem? (i := 2107) (by decide +kernel), List.mem_of_getElem? (i := 2108) (by decide +kernel)⟩
theorem lw_p136 : lw_okq (⟨"ChessHouseModel", "done", "()V"⟩, 19) := ⟨⟨by decide +kernel, by decide +kernel⟩, List.mem_of_getElem? (i := 1601) (by decide +kernel), List.mem_of_getElem? (i := 2112) (by decide +kernel), List.mem_of_getElem? (i := 2113) (by decide +kernel)⟩
theorem lw_p137 : lw_okq (⟨"ChessHouseModel", "isRow", "(Ljava/lang/String;II)Z"⟩, 19) := ⟨⟨by decide +kernel, by decide +kernel⟩, List.mem_of_getElem? (i := 1601) (by decide +kernel), List.mem_of_getElem? (i := 2117) (by decide +kernel), List.mem_of_getElem? (i := 2118) (by decide +kernel)⟩
theorem lw_p138 : lw_okq (⟨"ChessHouseModel", "set", "(I)V"⟩, 19) := ⟨⟨by decide +kernel, by decide +kernel⟩, List.mem_of_getElem? (i := 1601) (by decide +kernel), List.mem_of_getElem? (i := 2123) (by decide +kernel), List.mem_of_getElem? (i := 2124) (by decide +kernel)⟩
theorem lw_p139 : lw_okq (⟨"ChessHouseModel$Board", "fault", "()I"⟩, 37) := ⟨⟨by decide +kernel, by decide +kernel⟩, List.mem_of_getElem? (i := 1863) (by decide +kernel), List.mem_of_getElem? (i := 2127) (by decide +kernel), List.mem_of_getElem? (i := 2128) (by decide +kernel)⟩
theorem lw_p140 : lw_okq (⟨"ChessHouseModel$Board", "readMen", "()I"⟩, 37) := ⟨⟨by decide +kernel, by decide +kernel⟩, List.mem_of_getElem? (i := 1863) (by decide +kernel), List.mem_of_getElem? (i := 2131) (by decide +kernel), List.mem_of_getElem? (i := 2132) (by decide +kernel)⟩
theorem lw_p141 : lw_okq (⟨"ChessHouseModel$Board", "sign", "(I)C"⟩, 37) := ⟨⟨by decide +kernel, by decide +kernel⟩, List.mem_of_getElem? (i := 1863) (by decide +kernel), List.mem_of_getElem? (i := 2135) (by decide +kernel), List.mem_of_getElem? (i := 2136) (by decide +kernel)⟩
theorem lw_p142 : lw_okq (⟨"ChessHouseModel$Board", "readRest", "(I)Z"⟩, 37) := ⟨⟨by decide +kernel, by decide +kernel⟩, List.mem_of_getElem? (i := 1863) (by decide +kernel), List.mem_of_getElem? (i := 2148) (by decide +kernel), List.mem_of_getElem? (i := 2149) (by decide +kernel)⟩
theorem lw_p143 : lw_okq (⟨"ChessHouseModel$Board", "numberAt", "(I)I"⟩, 37) := ⟨⟨by decide +kernel, by decide +kernel⟩, List.mem_of_getElem? (i := 1863) (by decide +kernel), List.mem_of_getElem? (i := 2155) (by decide +kernel), List.mem_of_getElem? (i := 2156) (by decide +kernel)⟩
def lw_privs_9 : List (MethodName × Nat) := [(⟨"ChessHouseModel", "takeLine", "()V"⟩, 19), (⟨"ChessHouseModel", "command", "()V"⟩, 19), (⟨"ChessHouseModel", "isOfText", "()Z"⟩, 19), (⟨"ChessHouseModel", "fault", "(I)V"⟩, 19), (⟨"ChessHouseModel", "fault", "(III)V"⟩, 19), (⟨"ChessHouseModel", "put", "(C)V"⟩, 19), (⟨"ChessHouseModel", "say", "(J)V"⟩, 19), (⟨"ChessHouseModel", "putNumber", "(J)V"⟩, 19), (⟨"ChessHouseModel", "done", "()V"⟩, 19), (⟨"ChessHouseModel", "isRow", "(Ljava/lang/String;II)Z"⟩, 19), (⟨"ChessHouseModel", "set", "(I)V"⟩, 19), (⟨"ChessHouseModel$Board", "fault", "()I"⟩, 37), (⟨"ChessHouseModel$Board", "readMen", "()I"⟩, 37), (⟨"ChessHouseModel$Board", "sign", "(I)C"⟩, 37), (⟨"ChessHouseModel$Board", "readRest", "(I)Z"⟩, 37), (⟨"ChessHouseModel$Board", "numberAt", "(I)I"⟩, 37)]
theorem lw_r9 : ∀ q ∈ lw_privs_9, lw_okq q := List.forall_mem_cons.mpr ⟨lw_p128, List.forall_mem_cons.mpr ⟨lw_p129, List.forall_mem_cons.mpr ⟨lw_p130, List.forall_mem_cons.mpr ⟨lw_p131, List.forall_mem_cons.mpr ⟨lw_p132, List.forall_mem_cons.mpr ⟨lw_p133, List.forall_mem_cons.mpr ⟨lw_p134, List.forall_mem_cons.mpr ⟨lw_p135, List.forall_mem_cons.mpr ⟨lw_p136, List.forall_mem_cons.mpr ⟨lw_p137, List.forall_mem_cons.mpr ⟨lw_p138, List.forall_mem_cons.mpr ⟨lw_p139, List.forall_mem_cons.mpr ⟨lw_p140, List.forall_mem_cons.mpr ⟨lw_p141, List.forall_mem_cons.mpr ⟨lw_p142, List.forall_mem_cons.mpr ⟨lw_p143, fun _ h => absurd h List.not_mem_nil⟩⟩⟩⟩⟩⟩⟩⟩⟩⟩⟩⟩⟩⟩⟩⟩
theorem lw_p144 : lw_okq (⟨"ChessHouseModel$Board", "countOf", "(I)I"⟩, 37) := ⟨⟨by decide +kernel, by decide +kernel⟩, List.mem_of_getElem? (i := 1863) (by decide +kernel), List.mem_of_getElem? (i := 2162) (by decide +kernel), List.mem_of_getElem? (i := 2163) (by decide +kernel)⟩
theorem lw_p145 : lw_okq (⟨"ChessHouseModel$Board", "hasPawnAtEnd", "()Z"⟩, 37) := ⟨⟨by decide +kernel, by decide +kernel⟩, List.mem_of_getElem? (i := 1863) (by decide +kernel), List.mem_of_getElem? (i := 2166) (by decide +kernel), List.mem_of_getElem? (i := 2167) (by decide +kernel)⟩
theorem lw_p146 : lw_okq (⟨"ChessHouseModel$Board", "inCheck", "(I)Z"⟩, 37) := ⟨⟨by decide +kernel, by decide +kernel⟩, List.mem_of_getElem? (i := 1863) (by decide +kernel), List.mem_of_getElem? (i := 2170) (by decide +kernel), List.mem_of_getElem? (i := 2171) (by decide +kernel)⟩
theorem lw_p147 : lw_okq (⟨"ChessHouseModel$Board", "kingOf", "(I)I"⟩, 37) := ⟨⟨by decide +kernel, by decide +kernel⟩, List.mem_of_getElem? (i := 1863) (by decide +kernel), List.mem_of_getElem? (i := 2174) (by decide +kernel), List.mem_of_getElem? (i := 2175) (by decide +kernel)⟩
theorem lw_p148 : lw_okq (⟨"ChessHouseModel$Board", "isAttacked", "(II)Z"⟩, 37) := ⟨⟨by decide +kernel, by decide +kernel⟩, List.mem_of_getElem? (i := 1863) (by decide +kernel), List.mem_of_getElem? (i := 2178) (by decide +kernel), List.mem_of_getElem? (i := 2179) (by decide +kernel)⟩
theorem lw_p149 : lw_okq (⟨"ChessHouseModel$Board", "hasMan", "(II)Z"⟩, 37) := ⟨⟨by decide +kernel, by decide +kernel⟩, List.mem_of_getElem? (i := 1863) (by decide +kernel), List.mem_of_getElem? (i := 2185) (by decide +kernel), List.mem_of_getElem? (i := 2186) (by decide +kernel)⟩
theorem lw_p150 : lw_okq (⟨"ChessHouseModel$Board", "firstMan", "(III)I"⟩, 37) := ⟨⟨by decide +kernel, by decide +kernel⟩, List.mem_of_getElem? (i := 1863) (by decide +kernel), List.mem_of_getElem? (i := 2189) (by decide +kernel), List.mem_of_getElem? (i := 2190) (by decide +kernel)⟩
theorem lw_p151 : lw_okq (⟨"ChessHouseModel$Board", "isRightWrong", "()Z"⟩, 37) := ⟨⟨by decide +kernel, by decide +kernel⟩, List.mem_of_getElem? (i := 1863) (by decide +kernel), List.mem_of_getElem? (i := 2193) (by decide +kernel), List.mem_of_getElem? (i := 2194) (by decide +kernel)⟩
theorem lw_p152 : lw_okq (⟨"ChessHouseModel$Board", "isPassedWrong", "()Z"⟩, 37) := ⟨⟨by decide +kernel, by decide +kernel⟩, List.mem_of_getElem? (i := 1863) (by decide +kernel), List.mem_of_getElem? (i := 2197) (by decide +kernel), List.mem_of_getElem? (i := 2198) (by decide +kernel)⟩
theorem lw_p153 : lw_okq (⟨"ChessHouseModel", "lookAtBoard", "()V"⟩, 19) := ⟨⟨by decide +kernel, by decide +kernel⟩, List.mem_of_getElem? (i := 1601) (by decide +kernel), List.mem_of_getElem? (i := 2202) (by decide +kernel), List.mem_of_getElem? (i := 2203) (by decide +kernel)⟩
theorem lw_p154 : lw_okq (⟨"ChessHouseModel", "goTo", "(I)V"⟩, 19) := ⟨⟨by decide +kernel, by decide +kernel⟩, List.mem_of_getElem? (i := 1601) (by decide +kernel), List.mem_of_getElem? (i := 2208) (by decide +kernel), List.mem_of_getElem? (i := 2209) (by decide +kernel)⟩
theorem lw_p155 : lw_okq (⟨"ChessHouseModel", "nothing", "()V"⟩, 19) := ⟨⟨by decide +kernel, by decide +kernel⟩, List.mem_of_getElem? (i := 1601) (by decide +kernel), List.mem_of_getElem? (i := 2213) (by decide +kernel), List.mem_of_getElem? (i := 2214) (by decide +kernel)⟩
theorem lw_p156 : lw_okq (⟨"ChessHouseModel", "begin", "()V"⟩, 19) := ⟨⟨by decide +kernel, by decide +kernel⟩, List.mem_of_getElem? (i := 1601) (by decide +kernel), List.mem_of_getElem? (i := 2217) (by decide +kernel), List.mem_of_getElem? (i := 2218) (by decide +kernel)⟩
theorem lw_p157 : lw_okq (⟨"ChessHouseModel", "remark", "(I)V"⟩, 19) := ⟨⟨by decide +kernel, by decide +kernel⟩, List.mem_of_getElem? (i := 1601) (by decide +kernel), List.mem_of_getElem? (i := 2222) (by decide +kernel), List.mem_of_getElem? (i := 2223) (by decide +kernel)⟩
theorem lw_p158 : lw_okq (⟨"ChessHouseModel", "answer", "(J)V"⟩, 19) := ⟨⟨by decide +kernel, by decide +kernel⟩, List.mem_of_getElem? (i := 1601) (by decide +kernel), List.mem_of_getElem? (i := 2226) (by decide +kernel), List.mem_of_getElem? (i := 2227) (by decide +kernel)⟩
theorem lw_p159 : lw_okq (⟨"ChessHouseModel", "tag", "(I)V"⟩, 19) := ⟨⟨by decide +kernel, by decide +kernel⟩, List.mem_of_getElem? (i := 1601) (by decide +kernel), List.mem_of_getElem? (i := 2231) (by decide +kernel), List.mem_of_getElem? (i := 2232) (by decide +kernel)⟩
def lw_privs_10 : List (MethodName × Nat) := [(⟨"ChessHouseModel$Board", "countOf", "(I)I"⟩, 37), (⟨"ChessHouseModel$Board", "hasPawnAtEnd", "()Z"⟩, 37), (⟨"ChessHouseModel$Board", "inCheck", "(I)Z"⟩, 37), (⟨"ChessHouseModel$Board", "kingOf", "(I)I"⟩, 37), (⟨"ChessHouseModel$Board", "isAttacked", "(II)Z"⟩, 37), (⟨"ChessHouseModel$Board", "hasMan", "(II)Z"⟩, 37), (⟨"ChessHouseModel$Board", "firstMan", "(III)I"⟩, 37), (⟨"ChessHouseModel$Board", "isRightWrong", "()Z"⟩, 37), (⟨"ChessHouseModel$Board", "isPassedWrong", "()Z"⟩, 37), (⟨"ChessHouseModel", "lookAtBoard", "()V"⟩, 19), (⟨"ChessHouseModel", "goTo", "(I)V"⟩, 19), (⟨"ChessHouseModel", "nothing", "()V"⟩, 19), (⟨"ChessHouseModel", "begin", "()V"⟩, 19), (⟨"ChessHouseModel", "remark", "(I)V"⟩, 19), (⟨"ChessHouseModel", "answer", "(J)V"⟩, 19), (⟨"ChessHouseModel", "tag", "(I)V"⟩, 19)]
theorem lw_r10 : ∀ q ∈ lw_privs_10, lw_okq q := List.forall_mem_cons.mpr ⟨lw_p144, List.forall_mem_cons.mpr ⟨lw_p145, List.forall_mem_cons.mpr ⟨lw_p146, List.forall_mem_cons.mpr ⟨lw_p147, List.forall_mem_cons.mpr ⟨lw_p148, List.forall_mem_cons.mpr ⟨lw_p149, List.forall_mem_cons.mpr ⟨lw_p150, List.forall_mem_cons.mpr ⟨lw_p151, List.forall_mem_cons.mpr ⟨lw_p152, List.forall_mem_cons.mpr ⟨lw_p153, List.forall_mem_cons.mpr ⟨lw_p154, List.forall_mem_cons.mpr ⟨lw_p155, List.forall_mem_cons.mpr ⟨lw_p156, List.forall_mem_cons.mpr ⟨lw_p157, List.forall_mem_cons.mpr ⟨lw_p158, List.forall_mem_cons.mpr ⟨lw_p159, fun _ h => absurd h List.not_mem_nil⟩⟩⟩⟩⟩⟩⟩⟩⟩⟩⟩⟩⟩⟩⟩⟩
theorem lw_p160 : lw_okq (⟨"ChessHouseModel", "tagAt", "(II)I"⟩, 19) := ⟨⟨by decide +kernel, by decide +kernel⟩, List.mem_of_getElem? (i := 1601) (by decide +kernel), List.mem_of_getElem? (i := 2238) (by decide +kernel), List.mem_of_getElem? (i := 2239) (by decide +kernel)⟩
theorem lw_p161 : lw_okq (⟨"ChessHouseModel", "split", "()V"⟩, 19) := ⟨⟨by decide +kernel, by decide +kernel⟩, List.mem_of_getElem? (i := 1601) (by decide +kernel), List.mem_of_getElem? (i := 2243) (by decide +kernel), List.mem_of_getElem? (i := 2244) (by decide +kernel)⟩
theorem lw_p162 : lw_okq (⟨"ChessHouseModel", "tree", "()Z"⟩, 19) := ⟨⟨by decide +kernel, by decide +kernel⟩, List.mem_of_getElem? (i := 1601) (by decide +kernel), List.mem_of_getElem? (i := 2247) (by decide +kernel), List.mem_of_getElem? (i := 2248) (by decide +kernel)⟩
theorem lw_p163 : lw_okq (⟨"ChessHouseModel", "isWord", "(ILjava/lang/String;)Z"⟩, 19) := ⟨⟨by decide +kernel, by decide +kernel⟩, List.mem_of_getElem? (i := 1601) (by decide +kernel), List.mem_of_getElem? (i := 2252) (by decide +kernel), List.mem_of_getElem? (i := 2253) (by decide +kernel)⟩
theorem lw_p164 : lw_okq (⟨"ChessHouseModel", "readGame", "()V"⟩, 19) := ⟨⟨by decide +kernel, by decide +kernel⟩, List.mem_of_getElem? (i := 1601) (by decide +kernel), List.mem_of_getElem? (i := 2258) (by decide +kernel), List.mem_of_getElem? (i := 2259) (by decide +kernel)⟩
theorem lw_p165 : lw_okq (⟨"ChessHouseModel$Texts", "readGame", "(I)I"⟩, 40) := ⟨⟨by decide +kernel, by decide +kernel⟩, List.mem_of_getElem? (i := 1608) (by decide +kernel), List.mem_of_getElem? (i := 2266) (by decide +kernel), List.mem_of_getElem? (i := 2267) (by decide +kernel)⟩
theorem lw_p166 : lw_okq (⟨"ChessHouseModel$Texts", "blanks", "()V"⟩, 40) := ⟨⟨by decide +kernel, by decide +kernel⟩, List.mem_of_getElem? (i := 1608) (by decide +kernel), List.mem_of_getElem? (i := 2270) (by decide +kernel), List.mem_of_getElem? (i := 2271) (by decide +kernel)⟩
theorem lw_p167 : lw_okq (⟨"ChessHouseModel$Texts", "look", "()C"⟩, 40) := ⟨⟨by decide +kernel, by decide +kernel⟩, List.mem_of_getElem? (i := 1608) (by decide +kernel), List.mem_of_getElem? (i := 2274) (by decide +kernel), List.mem_of_getElem? (i := 2275) (by decide +kernel)⟩
theorem lw_p168 : lw_okq (⟨"ChessHouseModel$Texts", "readTag", "(I)I"⟩, 40) := ⟨⟨by decide +kernel, by decide +kernel⟩, List.mem_of_getElem? (i := 1608) (by decide +kernel), List.mem_of_getElem? (i := 2278) (by decide +kernel), List.mem_of_getElem? (i := 2279) (by decide +kernel)⟩
theorem lw_p169 : lw_okq (⟨"ChessHouseModel$Texts", "isNameThere", "(II)Z"⟩, 40) := ⟨⟨by decide +kernel, by decide +kernel⟩, List.mem_of_getElem? (i := 1608) (by decide +kernel), List.mem_of_getElem? (i := 2292) (by decide +kernel), List.mem_of_getElem? (i := 2293) (by decide +kernel)⟩
theorem lw_p170 : lw_okq (⟨"ChessHouseModel$Texts", "isTag", "(III)Z"⟩, 40) := ⟨⟨by decide +kernel, by decide +kernel⟩, List.mem_of_getElem? (i := 1608) (by decide +kernel), List.mem_of_getElem? (i := 2296) (by decide +kernel), List.mem_of_getElem? (i := 2297) (by decide +kernel)⟩
theorem lw_p171 : lw_okq (⟨"ChessHouseModel$Texts", "readPosition", "(II)Z"⟩, 40) := ⟨⟨by decide +kernel, by decide +kernel⟩, List.mem_of_getElem? (i := 1608) (by decide +kernel), List.mem_of_getElem? (i := 2300) (by decide +kernel), List.mem_of_getElem? (i := 2301) (by decide +kernel)⟩
theorem lw_p172 : lw_okq (⟨"ChessHouseModel$Texts", "readRank", "(I)Z"⟩, 40) := ⟨⟨by decide +kernel, by decide +kernel⟩, List.mem_of_getElem? (i := 1608) (by decide +kernel), List.mem_of_getElem? (i := 2304) (by decide +kernel), List.mem_of_getElem? (i := 2305) (by decide +kernel)⟩
theorem lw_p173 : lw_okq (⟨"ChessHouseModel$Texts", "sign", "()C"⟩, 40) := ⟨⟨by decide +kernel, by decide +kernel⟩, List.mem_of_getElem? (i := 1608) (by decide +kernel), List.mem_of_getElem? (i := 2308) (by decide +kernel), List.mem_of_getElem? (i := 2309) (by decide +kernel)⟩
theorem lw_p174 : lw_okq (⟨"ChessHouseModel$Texts", "pass", "(C)Z"⟩, 40) := ⟨⟨by decide +kernel, by decide +kernel⟩, List.mem_of_getElem? (i := 1608) (by decide +kernel), List.mem_of_getElem? (i := 2315) (by decide +kernel), List.mem_of_getElem? (i := 2316) (by decide +kernel)⟩
theorem lw_p175 : lw_okq (⟨"ChessHouseModel$Texts", "readRights", "()Z"⟩, 40) := ⟨⟨by decide +kernel, by decide +kernel⟩, List.mem_of_getElem? (i := 1608) (by decide +kernel), List.mem_of_getElem? (i := 2319) (by decide +kernel), List.mem_of_getElem? (i := 2320) (by decide +kernel)⟩
def lw_privs_11 : List (MethodName × Nat) := [(⟨"ChessHouseModel", "tagAt", "(II)I"⟩, 19), (⟨"ChessHouseModel", "split", "()V"⟩, 19), (⟨"ChessHouseModel", "tree", "()Z"⟩, 19), (⟨"ChessHouseModel", "isWord", "(ILjava/lang/String;)Z"⟩, 19), (⟨"ChessHouseModel", "readGame", "()V"⟩, 19), (⟨"ChessHouseModel$Texts", "readGame", "(I)I"⟩, 40), (⟨"ChessHouseModel$Texts", "blanks", "()V"⟩, 40), (⟨"ChessHouseModel$Texts", "look", "()C"⟩, 40), (⟨"ChessHouseModel$Texts", "readTag", "(I)I"⟩, 40), (⟨"ChessHouseModel$Texts", "isNameThere", "(II)Z"⟩, 40), (⟨"ChessHouseModel$Texts", "isTag", "(III)Z"⟩, 40), (⟨"ChessHouseModel$Texts", "readPosition", "(II)Z"⟩, 40), (⟨"ChessHouseModel$Texts", "readRank", "(I)Z"⟩, 40), (⟨"ChessHouseModel$Texts", "sign", "()C"⟩, 40), (⟨"ChessHouseModel$Texts", "pass", "(C)Z"⟩, 40), (⟨"ChessHouseModel$Texts", "readRights", "()Z"⟩, 40)]
theorem lw_r11 : ∀ q ∈ lw_privs_11, lw_okq q := List.forall_mem_cons.mpr ⟨lw_p160, List.forall_mem_cons.mpr ⟨lw_p161, List.forall_mem_cons.mpr ⟨lw_p162, List.forall_mem_cons.mpr ⟨lw_p163, List.forall_mem_cons.mpr ⟨lw_p164, List.forall_mem_cons.mpr ⟨lw_p165, List.forall_mem_cons.mpr ⟨lw_p166, List.forall_mem_cons.mpr ⟨lw_p167, List.forall_mem_cons.mpr ⟨lw_p168, List.forall_mem_cons.mpr ⟨lw_p169, List.forall_mem_cons.mpr ⟨lw_p170, List.forall_mem_cons.mpr ⟨lw_p171, List.forall_mem_cons.mpr ⟨lw_p172, List.forall_mem_cons.mpr ⟨lw_p173, List.forall_mem_cons.mpr ⟨lw_p174, List.forall_mem_cons.mpr ⟨lw_p175, fun _ h => absurd h List.not_mem_nil⟩⟩⟩⟩⟩⟩⟩⟩⟩⟩⟩⟩⟩⟩⟩⟩
theorem lw_p176 : lw_okq (⟨"ChessHouseModel$Texts", "readPassed", "()Z"⟩, 40) := ⟨⟨by decide +kernel, by decide +kernel⟩, List.mem_of_getElem? (i := 1608) (by decide +kernel), List.mem_of_getElem? (i := 2323) (by decide +kernel), List.mem_of_getElem? (i := 2324) (by decide +kernel)⟩
theorem lw_p177 : lw_okq (⟨"ChessHouseModel$Texts", "readNumber", "()I"⟩, 40) := ⟨⟨by decide +kernel, by decide +kernel⟩, List.mem_of_getElem? (i := 1608) (by decide +kernel), List.mem_of_getElem? (i := 2327) (by decide +kernel), List.mem_of_getElem? (i := 2328) (by decide +kernel)⟩
theorem lw_p178 : lw_okq (⟨"ChessHouseModel$Texts", "mayStand", "()Z"⟩, 40) := ⟨⟨by decide +kernel, by decide +kernel⟩, List.mem_of_getElem? (i := 1608) (by decide +kernel), List.mem_of_getElem? (i := 2331) (by decide +kernel), List.mem_of_getElem? (i := 2332) (by decide +kernel)⟩
theorem lw_p179 : lw_okq (⟨"ChessHouseModel$Texts", "countOf", "(I)I"⟩, 40) := ⟨⟨by decide +kernel, by decide +kernel⟩, List.mem_of_getElem? (i := 1608) (by decide +kernel), List.mem_of_getElem? (i := 2335) (by decide +kernel), List.mem_of_getElem? (i := 2336) (by decide +kernel)⟩
theorem lw_p180 : lw_okq (⟨"ChessHouseModel$Texts", "readRemarks", "(II)I"⟩, 40) := ⟨⟨by decide +kernel, by decide +kernel⟩, List.mem_of_getElem? (i := 1608) (by decide +kernel), List.mem_of_getElem? (i := 2339) (by decide +kernel), List.mem_of_getElem? (i := 2340) (by decide +kernel)⟩
theorem lw_p181 : lw_okq (⟨"ChessHouseModel$Texts", "readLine", "(III)I"⟩, 40) := ⟨⟨by decide +kernel, by decide +kernel⟩, List.mem_of_getElem? (i := 1608) (by decide +kernel), List.mem_of_getElem? (i := 2343) (by decide +kernel), List.mem_of_getElem? (i := 2344) (by decide +kernel)⟩
theorem lw_p182 : lw_okq (⟨"ChessHouseModel$Texts", "resultHere", "()I"⟩, 40) := ⟨⟨by decide +kernel, by decide +kernel⟩, List.mem_of_getElem? (i := 1608) (by decide +kernel), List.mem_of_getElem? (i := 2347) (by decide +kernel), List.mem_of_getElem? (i := 2348) (by decide +kernel)⟩
theorem lw_p183 : lw_okq (⟨"ChessHouseModel$Texts", "goesOnWith", "(CCC)Z"⟩, 40) := ⟨⟨by decide +kernel, by decide +kernel⟩, List.mem_of_getElem? (i := 1608) (by decide +kernel), List.mem_of_getElem? (i := 2351) (by decide +kernel), List.mem_of_getElem? (i := 2352) (by decide +kernel)⟩
theorem lw_p184 : lw_okq (⟨"ChessHouseModel$Texts", "readMoveNumber", "()I"⟩, 40) := ⟨⟨by decide +kernel, by decide +kernel⟩, List.mem_of_getElem? (i := 1608) (by decide +kernel), List.mem_of_getElem? (i := 2355) (by decide +kernel), List.mem_of_getElem? (i := 2356) (by decide +kernel)⟩
theorem lw_p185 : lw_okq (⟨"ChessHouseModel$Texts", "readMove", "(II)I"⟩, 40) := ⟨⟨by decide +kernel, by decide +kernel⟩, List.mem_of_getElem? (i := 1608) (by decide +kernel), List.mem_of_getElem? (i := 2359) (by decide +kernel), List.mem_of_getElem? (i := 2360) (by decide +kernel)⟩
theorem lw_p186 : lw_okq (⟨"ChessHouseModel$Texts", "understood", "(II)I"⟩, 40) := ⟨⟨by decide +kernel, by decide +kernel⟩, List.mem_of_getElem? (i := 1608) (by decide +kernel), List.mem_of_getElem? (i := 2363) (by decide +kernel), List.mem_of_getElem? (i := 2364) (by decide +kernel)⟩
theorem lw_p187 : lw_okq (⟨"ChessHouseModel$Texts", "fits", "(IIIZ)Z"⟩, 40) := ⟨⟨by decide +kernel, by decide +kernel⟩, List.mem_of_getElem? (i := 1608) (by decide +kernel), List.mem_of_getElem? (i := 2367) (by decide +kernel), List.mem_of_getElem? (i := 2368) (by decide +kernel)⟩
theorem lw_p188 : lw_okq (⟨"ChessHouseModel$Texts", "isCastling", "(I)Z"⟩, 40) := ⟨⟨by decide +kernel, by decide +kernel⟩, List.mem_of_getElem? (i := 1608) (by decide +kernel), List.mem_of_getElem? (i := 2371) (by decide +kernel), List.mem_of_getElem? (i := 2372) (by decide +kernel)⟩
theorem lw_p189 : lw_okq (⟨"ChessHouseModel$Texts", "spellMove", "(IIZ)V"⟩, 40) := ⟨⟨by decide +kernel, by decide +kernel⟩, List.mem_of_getElem? (i := 1608) (by decide +kernel), List.mem_of_getElem? (i := 2375) (by decide +kernel), List.mem_of_getElem? (i := 2376) (by decide +kernel)⟩
theorem lw_p190 : lw_okq (⟨"ChessHouseModel$Texts", "spell", "(C)V"⟩, 40) := ⟨⟨by decide +kernel, by decide +kernel⟩, List.mem_of_getElem? (i := 1608) (by decide +kernel), List.mem_of_getElem? (i := 2379) (by decide +kernel), List.mem_of_getElem? (i := 2380) (by decide +kernel)⟩
theorem lw_p191 : lw_okq (⟨"ChessHouseModel$Texts", "spellSquare", "(I)V"⟩, 40) := ⟨⟨by decide +kernel, by decide +kernel⟩, List.mem_of_getElem? (i := 1608) (by decide +kernel), List.mem_of_getElem? (i := 2386) (by decide +kernel), List.mem_of_getElem? (i := 2387) (by decide +kernel)⟩
def lw_privs_12 : List (MethodName × Nat) := [(⟨"ChessHouseModel$Texts", "readPassed", "()Z"⟩, 40), (⟨"ChessHouseModel$Texts", "readNumber", "()I"⟩, 40), (⟨"ChessHouseModel$Texts", "mayStand", "()Z"⟩, 40), (⟨"ChessHouseModel$Texts", "countOf", "(I)I"⟩, 40), (⟨"ChessHouseModel$Texts", "readRemarks", "(II)I"⟩, 40), (⟨"ChessHouseModel$Texts", "readLine", "(III)I"⟩, 40), (⟨"ChessHouseModel$Texts", "resultHere", "()I"⟩, 40), (⟨"ChessHouseModel$Texts", "goesOnWith", "(CCC)Z"⟩, 40), (⟨"ChessHouseModel$Texts", "readMoveNumber", "()I"⟩, 40), (⟨"ChessHouseModel$Texts", "readMove", "(II)I"⟩, 40), (⟨"ChessHouseModel$Texts", "understood", "(II)I"⟩, 40), (⟨"ChessHouseModel$Texts", "fits", "(IIIZ)Z"⟩, 40), (⟨"ChessHouseModel$Texts", "isCastling", "(I)Z"⟩, 40), (⟨"ChessHouseModel$Texts", "spellMove", "(IIZ)V"⟩, 40), (⟨"ChessHouseModel$Texts", "spell", "(C)V"⟩, 40), (⟨"ChessHouseModel$Texts", "spellSquare", "(I)V"⟩, 40)]
theorem lw_r12 : ∀ q ∈ lw_privs_12, lw_okq q := List.forall_mem_cons.mpr ⟨lw_p176, List.forall_mem_cons.mpr ⟨lw_p177, List.forall_mem_cons.mpr ⟨lw_p178, List.forall_mem_cons.mpr ⟨lw_p179, List.forall_mem_cons.mpr ⟨lw_p180, List.forall_mem_cons.mpr ⟨lw_p181, List.forall_mem_cons.mpr ⟨lw_p182, List.forall_mem_cons.mpr ⟨lw_p183, List.forall_mem_cons.mpr ⟨lw_p184, List.forall_mem_cons.mpr ⟨lw_p185, List.forall_mem_cons.mpr ⟨lw_p186, List.forall_mem_cons.mpr ⟨lw_p187, List.forall_mem_cons.mpr ⟨lw_p188, List.forall_mem_cons.mpr ⟨lw_p189, List.forall_mem_cons.mpr ⟨lw_p190, List.forall_mem_cons.mpr ⟨lw_p191, fun _ h => absurd h List.not_mem_nil⟩⟩⟩⟩⟩⟩⟩⟩⟩⟩⟩⟩⟩⟩⟩⟩
theorem lw_p192 : lw_okq (⟨"ChessHouseModel$Texts", "isSpelled", "(IIZ)Z"⟩, 40) := ⟨⟨by decide +kernel, by decide +kernel⟩, List.mem_of_getElem? (i := 1608) (by decide +kernel), List.mem_of_getElem? (i := 2390) (by decide +kernel), List.mem_of_getElem? (i := 2391) (by decide +kernel)⟩
theorem lw_p193 : lw_okq (⟨"ChessHouseModel$Texts", "behind", "(I)C"⟩, 40) := ⟨⟨by decide +kernel, by decide +kernel⟩, List.mem_of_getElem? (i := 1608) (by decide +kernel), List.mem_of_getElem? (i := 2394) (by decide +kernel), List.mem_of_getElem? (i := 2395) (by decide +kernel)⟩
theorem lw_p194 : lw_okq (⟨"ChessHouseModel$Texts", "isSafeOnce", "(I)Z"⟩, 40) := ⟨⟨by decide +kernel, by decide +kernel⟩, List.mem_of_getElem? (i := 1608) (by decide +kernel), List.mem_of_getElem? (i := 2398) (by decide +kernel), List.mem_of_getElem? (i := 2399) (by decide +kernel)⟩
theorem lw_p195 : lw_okq (⟨"ChessHouseModel$Texts", "childWith", "(III)I"⟩, 40) := ⟨⟨by decide +kernel, by decide +kernel⟩, List.mem_of_getElem? (i := 1608) (by decide +kernel), List.mem_of_getElem? (i := 2402) (by decide +kernel), List.mem_of_getElem? (i := 2403) (by decide +kernel)⟩
theorem lw_p196 : lw_okq (⟨"ChessHouseModel$Texts", "append", "(III)I"⟩, 40) := ⟨⟨by decide +kernel, by decide +kernel⟩, List.mem_of_getElem? (i := 1608) (by decide +kernel), List.mem_of_getElem? (i := 2406) (by decide +kernel), List.mem_of_getElem? (i := 2407) (by decide +kernel)⟩
theorem lw_p197 : lw_okq (⟨"ChessHouseModel$Texts", "readMarks", "(II)I"⟩, 40) := ⟨⟨by decide +kernel, by decide +kernel⟩, List.mem_of_getElem? (i := 1608) (by decide +kernel), List.mem_of_getElem? (i := 2410) (by decide +kernel), List.mem_of_getElem? (i := 2411) (by decide +kernel)⟩
theorem lw_p198 : lw_okq (⟨"ChessHouseModel$Texts", "addMarkTo", "(III)V"⟩, 40) := ⟨⟨by decide +kernel, by decide +kernel⟩, List.mem_of_getElem? (i := 1608) (by decide +kernel), List.mem_of_getElem? (i := 2414) (by decide +kernel), List.mem_of_getElem? (i := 2415) (by decide +kernel)⟩
theorem lw_p199 : lw_okq (⟨"ChessHouseModel$Texts", "isResultValue", "(III)Z"⟩, 40) := ⟨⟨by decide +kernel, by decide +kernel⟩, List.mem_of_getElem? (i := 1608) (by decide +kernel), List.mem_of_getElem? (i := 2418) (by decide +kernel), List.mem_of_getElem? (i := 2419) (by decide +kernel)⟩
theorem lw_p200 : lw_okq (⟨"ChessHouseModel", "writeGame", "()V"⟩, 19) := ⟨⟨by decide +kernel, by decide +kernel⟩, List.mem_of_getElem? (i := 1601) (by decide +kernel), List.mem_of_getElem? (i := 2430) (by decide +kernel), List.mem_of_getElem? (i := 2431) (by decide +kernel)⟩
theorem lw_p201 : lw_okq (⟨"ChessHouseModel$Texts", "ink", "(C)V"⟩, 40) := ⟨⟨by decide +kernel, by decide +kernel⟩, List.mem_of_getElem? (i := 1608) (by decide +kernel), List.mem_of_getElem? (i := 2438) (by decide +kernel), List.mem_of_getElem? (i := 2439) (by decide +kernel)⟩
theorem lw_p202 : lw_okq (⟨"ChessHouseModel$Texts", "sayRemark", "(I)V"⟩, 40) := ⟨⟨by decide +kernel, by decide +kernel⟩, List.mem_of_getElem? (i := 1608) (by decide +kernel), List.mem_of_getElem? (i := 2442) (by decide +kernel), List.mem_of_getElem? (i := 2443) (by decide +kernel)⟩
theorem lw_p203 : lw_okq (⟨"ChessHouseModel$Texts", "sayLine", "(IZ)V"⟩, 40) := ⟨⟨by decide +kernel, by decide +kernel⟩, List.mem_of_getElem? (i := 1608) (by decide +kernel), List.mem_of_getElem? (i := 2446) (by decide +kernel), List.mem_of_getElem? (i := 2447) (by decide +kernel)⟩
theorem lw_p204 : lw_okq (⟨"ChessHouseModel$Texts", "sayMove", "(IZ)V"⟩, 40) := ⟨⟨by decide +kernel, by decide +kernel⟩, List.mem_of_getElem? (i := 1608) (by decide +kernel), List.mem_of_getElem? (i := 2450) (by decide +kernel), List.mem_of_getElem? (i := 2451) (by decide +kernel)⟩
theorem lw_p205 : lw_okq (⟨"ChessHouseModel$Texts", "sayNumber", "(I)V"⟩, 40) := ⟨⟨by decide +kernel, by decide +kernel⟩, List.mem_of_getElem? (i := 1608) (by decide +kernel), List.mem_of_getElem? (i := 2454) (by decide +kernel), List.mem_of_getElem? (i := 2455) (by decide +kernel)⟩
theorem lw_p206 : lw_okq (⟨"ChessHouseModel$Texts", "spellWhole", "(I)V"⟩, 40) := ⟨⟨by decide +kernel, by decide +kernel⟩, List.mem_of_getElem? (i := 1608) (by decide +kernel), List.mem_of_getElem? (i := 2458) (by decide +kernel), List.mem_of_getElem? (i := 2459) (by decide +kernel)⟩
theorem lw_p207 : lw_okq (⟨"ChessHouseModel$Texts", "apartOf", "(I)I"⟩, 40) := ⟨⟨by decide +kernel, by decide +kernel⟩, List.mem_of_getElem? (i := 1608) (by decide +kernel), List.mem_of_getElem? (i := 2462) (by decide +kernel), List.mem_of_getElem? (i := 2463) (by decide +kernel)⟩
def lw_privs_13 : List (MethodName × Nat) := [(⟨"ChessHouseModel$Texts", "isSpelled", "(IIZ)Z"⟩, 40), (⟨"ChessHouseModel$Texts", "behind", "(I)C"⟩, 40), (⟨"ChessHouseModel$Texts", "isSafeOnce", "(I)Z"⟩, 40), (⟨"ChessHouseModel$Texts", "childWith", "(III)I"⟩, 40), (⟨"ChessHouseModel$Texts", "append", "(III)I"⟩, 40), (⟨"ChessHouseModel$Texts", "readMarks", "(II)I"⟩, 40), (⟨"ChessHouseModel$Texts", "addMarkTo", "(III)V"⟩, 40), (⟨"ChessHouseModel$Texts", "isResultValue", "(III)Z"⟩, 40), (⟨"ChessHouseModel", "writeGame", "()V"⟩, 19), (⟨"ChessHouseModel$Texts", "ink", "(C)V"⟩, 40), (⟨"ChessHouseModel$Texts", "sayRemark", "(I)V"⟩, 40), (⟨"ChessHouseModel$Texts", "sayLine", "(IZ)V"⟩, 40), (⟨"ChessHouseModel$Texts", "sayMove", "(IZ)V"⟩, 40), (⟨"ChessHouseModel$Texts", "sayNumber", "(I)V"⟩, 40), (⟨"ChessHouseModel$Texts", "spellWhole", "(I)V"⟩, 40), (⟨"ChessHouseModel$Texts", "apartOf", "(I)I"⟩, 40)]
theorem lw_r13 : ∀ q ∈ lw_privs_13, lw_okq q := List.forall_mem_cons.mpr ⟨lw_p192, List.forall_mem_cons.mpr ⟨lw_p193, List.forall_mem_cons.mpr ⟨lw_p194, List.forall_mem_cons.mpr ⟨lw_p195, List.forall_mem_cons.mpr ⟨lw_p196, List.forall_mem_cons.mpr ⟨lw_p197, List.forall_mem_cons.mpr ⟨lw_p198, List.forall_mem_cons.mpr ⟨lw_p199, List.forall_mem_cons.mpr ⟨lw_p200, List.forall_mem_cons.mpr ⟨lw_p201, List.forall_mem_cons.mpr ⟨lw_p202, List.forall_mem_cons.mpr ⟨lw_p203, List.forall_mem_cons.mpr ⟨lw_p204, List.forall_mem_cons.mpr ⟨lw_p205, List.forall_mem_cons.mpr ⟨lw_p206, List.forall_mem_cons.mpr ⟨lw_p207, fun _ h => absurd h List.not_mem_nil⟩⟩⟩⟩⟩⟩⟩⟩⟩⟩⟩⟩⟩⟩⟩⟩
theorem lw_p208 : lw_okq (⟨"ChessHouseModel", "others", "()V"⟩, 19) := ⟨⟨by decide +kernel, by decide +kernel⟩, List.mem_of_getElem? (i := 1601) (by decide +kernel), List.mem_of_getElem? (i := 2467) (by decide +kernel), List.mem_of_getElem? (i := 2468) (by decide +kernel)⟩
theorem lw_p209 : lw_okq (⟨"ChessHouseModel", "saySigns", "(I)V"⟩, 19) := ⟨⟨by decide +kernel, by decide +kernel⟩, List.mem_of_getElem? (i := 1601) (by decide +kernel), List.mem_of_getElem? (i := 2471) (by decide +kernel), List.mem_of_getElem? (i := 2472) (by decide +kernel)⟩
theorem lw_p210 : lw_okq (⟨"ChessHouseModel", "play", "()V"⟩, 19) := ⟨⟨by decide +kernel, by decide +kernel⟩, List.mem_of_getElem? (i := 1601) (by decide +kernel), List.mem_of_getElem? (i := 2477) (by decide +kernel), List.mem_of_getElem? (i := 2478) (by decide +kernel)⟩
theorem lw_p211 : lw_okq (⟨"ChessHouseModel", "meant", "(I)I"⟩, 19) := ⟨⟨by decide +kernel, by decide +kernel⟩, List.mem_of_getElem? (i := 1601) (by decide +kernel), List.mem_of_getElem? (i := 2481) (by decide +kernel), List.mem_of_getElem? (i := 2482) (by decide +kernel)⟩
theorem lw_p212 : lw_okq (⟨"ChessHouseModel$Texts", "isLegal", "(I)Z"⟩, 40) := ⟨⟨by decide +kernel, by decide +kernel⟩, List.mem_of_getElem? (i := 1608) (by decide +kernel), List.mem_of_getElem? (i := 2490) (by decide +kernel), List.mem_of_getElem? (i := 2491) (by decide +kernel)⟩
theorem lw_p213 : lw_okq (⟨"ChessHouseModel$Texts", "deepOf", "(II)I"⟩, 40) := ⟨⟨by decide +kernel, by decide +kernel⟩, List.mem_of_getElem? (i := 1608) (by decide +kernel), List.mem_of_getElem? (i := 2494) (by decide +kernel), List.mem_of_getElem? (i := 2495) (by decide +kernel)⟩
theorem lw_p214 : lw_okq (⟨"ChessHouseModel$Texts", "isFirst", "(II)Z"⟩, 40) := ⟨⟨by decide +kernel, by decide +kernel⟩, List.mem_of_getElem? (i := 1608) (by decide +kernel), List.mem_of_getElem? (i := 2498) (by decide +kernel), List.mem_of_getElem? (i := 2499) (by decide +kernel)⟩
theorem lw_p215 : lw_okq (⟨"ChessHouseModel", "number", "(III)I"⟩, 19) := ⟨⟨by decide +kernel, by decide +kernel⟩, List.mem_of_getElem? (i := 1601) (by decide +kernel), List.mem_of_getElem? (i := 2503) (by decide +kernel), List.mem_of_getElem? (i := 2504) (by decide +kernel)⟩
theorem lw_p216 : lw_okq (⟨"ChessHouseModel", "back", "(I)V"⟩, 19) := ⟨⟨by decide +kernel, by decide +kernel⟩, List.mem_of_getElem? (i := 1601) (by decide +kernel), List.mem_of_getElem? (i := 2507) (by decide +kernel), List.mem_of_getElem? (i := 2508) (by decide +kernel)⟩
theorem lw_p217 : lw_okq (⟨"ChessHouseModel$Texts", "isNode", "(I)Z"⟩, 40) := ⟨⟨by decide +kernel, by decide +kernel⟩, List.mem_of_getElem? (i := 1608) (by decide +kernel), List.mem_of_getElem? (i := 2512) (by decide +kernel), List.mem_of_getElem? (i := 2513) (by decide +kernel)⟩
theorem lw_p218 : lw_okq (⟨"ChessHouseModel", "mark", "(I)V"⟩, 19) := ⟨⟨by decide +kernel, by decide +kernel⟩, List.mem_of_getElem? (i := 1601) (by decide +kernel), List.mem_of_getElem? (i := 2517) (by decide +kernel), List.mem_of_getElem? (i := 2518) (by decide +kernel)⟩
theorem lw_p219 : lw_okq (⟨"ChessHouseModel", "lead", "()V"⟩, 19) := ⟨⟨by decide +kernel, by decide +kernel⟩, List.mem_of_getElem? (i := 1601) (by decide +kernel), List.mem_of_getElem? (i := 2526) (by decide +kernel), List.mem_of_getElem? (i := 2527) (by decide +kernel)⟩
theorem lw_p220 : lw_okq (⟨"ChessHouseModel$Texts", "isBehind", "(II)Z"⟩, 40) := ⟨⟨by decide +kernel, by decide +kernel⟩, List.mem_of_getElem? (i := 1608) (by decide +kernel), List.mem_of_getElem? (i := 2534) (by decide +kernel), List.mem_of_getElem? (i := 2535) (by decide +kernel)⟩
theorem lw_p221 : lw_okq (⟨"ChessHouseModel", "endGame", "()Z"⟩, 19) := ⟨⟨by decide +kernel, by decide +kernel⟩, List.mem_of_getElem? (i := 1601) (by decide +kernel), List.mem_of_getElem? (i := 2539) (by decide +kernel), List.mem_of_getElem? (i := 2540) (by decide +kernel)⟩
theorem lw_p222 : lw_okq (⟨"ChessHouseModel", "asked", "()Z"⟩, 19) := ⟨⟨by decide +kernel, by decide +kernel⟩, List.mem_of_getElem? (i := 1601) (by decide +kernel), List.mem_of_getElem? (i := 2547) (by decide +kernel), List.mem_of_getElem? (i := 2548) (by decide +kernel)⟩
theorem lw_p223 : lw_okq (⟨"ChessHouseModel", "tellBoard", "()V"⟩, 19) := ⟨⟨by decide +kernel, by decide +kernel⟩, List.mem_of_getElem? (i := 1601) (by decide +kernel), List.mem_of_getElem? (i := 2552) (by decide +kernel), List.mem_of_getElem? (i := 2553) (by decide +kernel)⟩
def lw_privs_14 : List (MethodName × Nat) := [(⟨"ChessHouseModel", "others", "()V"⟩, 19), (⟨"ChessHouseModel", "saySigns", "(I)V"⟩, 19), (⟨"ChessHouseModel", "play", "()V"⟩, 19), (⟨"ChessHouseModel", "meant", "(I)I"⟩, 19), (⟨"ChessHouseModel$Texts", "isLegal", "(I)Z"⟩, 40), (⟨"ChessHouseModel$Texts", "deepOf", "(II)I"⟩, 40), (⟨"ChessHouseModel$Texts", "isFirst", "(II)Z"⟩, 40), (⟨"ChessHouseModel", "number", "(III)I"⟩, 19), (⟨"ChessHouseModel", "back", "(I)V"⟩, 19), (⟨"ChessHouseModel$Texts", "isNode", "(I)Z"⟩, 40), (⟨"ChessHouseModel", "mark", "(I)V"⟩, 19), (⟨"ChessHouseModel", "lead", "()V"⟩, 19), (⟨"ChessHouseModel$Texts", "isBehind", "(II)Z"⟩, 40), (⟨"ChessHouseModel", "endGame", "()Z"⟩, 19), (⟨"ChessHouseModel", "asked", "()Z"⟩, 19), (⟨"ChessHouseModel", "tellBoard", "()V"⟩, 19)]
theorem lw_r14 : ∀ q ∈ lw_privs_14, lw_okq q := List.forall_mem_cons.mpr ⟨lw_p208, List.forall_mem_cons.mpr ⟨lw_p209, List.forall_mem_cons.mpr ⟨lw_p210, List.forall_mem_cons.mpr ⟨lw_p211, List.forall_mem_cons.mpr ⟨lw_p212, List.forall_mem_cons.mpr ⟨lw_p213, List.forall_mem_cons.mpr ⟨lw_p214, List.forall_mem_cons.mpr ⟨lw_p215, List.forall_mem_cons.mpr ⟨lw_p216, List.forall_mem_cons.mpr ⟨lw_p217, List.forall_mem_cons.mpr ⟨lw_p218, List.forall_mem_cons.mpr ⟨lw_p219, List.forall_mem_cons.mpr ⟨lw_p220, List.forall_mem_cons.mpr ⟨lw_p221, List.forall_mem_cons.mpr ⟨lw_p222, List.forall_mem_cons.mpr ⟨lw_p223, fun _ h => absurd h List.not_mem_nil⟩⟩⟩⟩⟩⟩⟩⟩⟩⟩⟩⟩⟩⟩⟩⟩
theorem lw_p224 : lw_okq (⟨"ChessHouseModel$Board", "enter", "(I)V"⟩, 37) := ⟨⟨by decide +kernel, by decide +kernel⟩, List.mem_of_getElem? (i := 1863) (by decide +kernel), List.mem_of_getElem? (i := 2556) (by decide +kernel), List.mem_of_getElem? (i := 2557) (by decide +kernel)⟩
theorem lw_p225 : lw_okq (⟨"ChessHouseModel$Board", "make", "(II)V"⟩, 37) := ⟨⟨by decide +kernel, by decide +kernel⟩, List.mem_of_getElem? (i := 1863) (by decide +kernel), List.mem_of_getElem? (i := 2560) (by decide +kernel), List.mem_of_getElem? (i := 2561) (by decide +kernel)⟩
theorem lw_p226 : lw_okq (⟨"ChessHouseModel$Board", "castleRook", "(IIZ)V"⟩, 37) := ⟨⟨by decide +kernel, by decide +kernel⟩, List.mem_of_getElem? (i := 1863) (by decide +kernel), List.mem_of_getElem? (i := 2564) (by decide +kernel), List.mem_of_getElem? (i := 2565) (by decide +kernel)⟩
theorem lw_p227 : lw_okq (⟨"ChessHouseModel$Board", "write", "([C)V"⟩, 37) := ⟨⟨by decide +kernel, by decide +kernel⟩, List.mem_of_getElem? (i := 1863) (by decide +kernel), List.mem_of_getElem? (i := 2571) (by decide +kernel), List.mem_of_getElem? (i := 2572) (by decide +kernel)⟩
theorem lw_p228 : lw_okq (⟨"ChessHouseModel$Board", "say", "(C)V"⟩, 37) := ⟨⟨by decide +kernel, by decide +kernel⟩, List.mem_of_getElem? (i := 1863) (by decide +kernel), List.mem_of_getElem? (i := 2575) (by decide +kernel), List.mem_of_getElem? (i := 2576) (by decide +kernel)⟩
theorem lw_p229 : lw_okq (⟨"ChessHouseModel$Board", "sayNumber", "(I)V"⟩, 37) := ⟨⟨by decide +kernel, by decide +kernel⟩, List.mem_of_getElem? (i := 1863) (by decide +kernel), List.mem_of_getElem? (i := 2579) (by decide +kernel), List.mem_of_getElem? (i := 2580) (by decide +kernel)⟩
theorem lw_p230 : lw_okq (⟨"ChessHouseModel", "state", "()V"⟩, 19) := ⟨⟨by decide +kernel, by decide +kernel⟩, List.mem_of_getElem? (i := 1601) (by decide +kernel), List.mem_of_getElem? (i := 2585) (by decide +kernel), List.mem_of_getElem? (i := 2586) (by decide +kernel)⟩
theorem lw_p231 : lw_okq (⟨"ChessHouseModel$Board", "state", "()I"⟩, 37) := ⟨⟨by decide +kernel, by decide +kernel⟩, List.mem_of_getElem? (i := 1863) (by decide +kernel), List.mem_of_getElem? (i := 2589) (by decide +kernel), List.mem_of_getElem? (i := 2590) (by decide +kernel)⟩
theorem lw_p232 : lw_okq (⟨"ChessHouseModel$Board", "list", "(I)I"⟩, 37) := ⟨⟨by decide +kernel, by decide +kernel⟩, List.mem_of_getElem? (i := 1863) (by decide +kernel), List.mem_of_getElem? (i := 2593) (by decide +kernel), List.mem_of_getElem? (i := 2594) (by decide +kernel)⟩
theorem lw_p233 : lw_okq (⟨"ChessHouseModel$Board", "isOf", "(II)Z"⟩, 37) := ⟨⟨by decide +kernel, by decide +kernel⟩, List.mem_of_getElem? (i := 1863) (by decide +kernel), List.mem_of_getElem? (i := 2597) (by decide +kernel), List.mem_of_getElem? (i := 2598) (by decide +kernel)⟩
theorem lw_p234 : lw_okq (⟨"ChessHouseModel$Board", "goals", "(I)J"⟩, 37) := ⟨⟨by decide +kernel, by decide +kernel⟩, List.mem_of_getElem? (i := 1863) (by decide +kernel), List.mem_of_getElem? (i := 2601) (by decide +kernel), List.mem_of_getElem? (i := 2602) (by decide +kernel)⟩
theorem lw_p235 : lw_okq (⟨"ChessHouseModel$Board", "pawnGoals", "(I)J"⟩, 37) := ⟨⟨by decide +kernel, by decide +kernel⟩, List.mem_of_getElem? (i := 1863) (by decide +kernel), List.mem_of_getElem? (i := 2605) (by decide +kernel), List.mem_of_getElem? (i := 2606) (by decide +kernel)⟩
theorem lw_p236 : lw_okq (⟨"ChessHouseModel$Board", "reach", "(I)J"⟩, 37) := ⟨⟨by decide +kernel, by decide +kernel⟩, List.mem_of_getElem? (i := 1863) (by decide +kernel), List.mem_of_getElem? (i := 2612) (by decide +kernel), List.mem_of_getElem? (i := 2613) (by decide +kernel)⟩
theorem lw_p237 : lw_okq (⟨"ChessHouseModel$Board", "walk", "(III)J"⟩, 37) := ⟨⟨by decide +kernel, by decide +kernel⟩, List.mem_of_getElem? (i := 1863) (by decide +kernel), List.mem_of_getElem? (i := 2616) (by decide +kernel), List.mem_of_getElem? (i := 2617) (by decide +kernel)⟩
theorem lw_p238 : lw_okq (⟨"ChessHouseModel$Board", "mayCastle", "(Z)Z"⟩, 37) := ⟨⟨by decide +kernel, by decide +kernel⟩, List.mem_of_getElem? (i := 1863) (by decide +kernel), List.mem_of_getElem? (i := 2620) (by decide +kernel), List.mem_of_getElem? (i := 2621) (by decide +kernel)⟩
theorem lw_p239 : lw_okq (⟨"ChessHouseModel$Board", "isLegal", "(I)Z"⟩, 37) := ⟨⟨by decide +kernel, by decide +kernel⟩, List.mem_of_getElem? (i := 1863) (by decide +kernel), List.mem_of_getElem? (i := 2624) (by decide +kernel), List.mem_of_getElem? (i := 2625) (by decide +kernel)⟩
def lw_privs_15 : List (MethodName × Nat) := [(⟨"ChessHouseModel$Board", "enter", "(I)V"⟩, 37), (⟨"ChessHouseModel$Board", "make", "(II)V"⟩, 37), (⟨"ChessHouseModel$Board", "castleRook", "(IIZ)V"⟩, 37), (⟨"ChessHouseModel$Board", "write", "([C)V"⟩, 37), (⟨"ChessHouseModel$Board", "say", "(C)V"⟩, 37), (⟨"ChessHouseModel$Board", "sayNumber", "(I)V"⟩, 37), (⟨"ChessHouseModel", "state", "()V"⟩, 19), (⟨"ChessHouseModel$Board", "state", "()I"⟩, 37), (⟨"ChessHouseModel$Board", "list", "(I)I"⟩, 37), (⟨"ChessHouseModel$Board", "isOf", "(II)Z"⟩, 37), (⟨"ChessHouseModel$Board", "goals", "(I)J"⟩, 37), (⟨"ChessHouseModel$Board", "pawnGoals", "(I)J"⟩, 37), (⟨"ChessHouseModel$Board", "reach", "(I)J"⟩, 37), (⟨"ChessHouseModel$Board", "walk", "(III)J"⟩, 37), (⟨"ChessHouseModel$Board", "mayCastle", "(Z)Z"⟩, 37), (⟨"ChessHouseModel$Board", "isLegal", "(I)Z"⟩, 37)]
theorem lw_r15 : ∀ q ∈ lw_privs_15, lw_okq q := List.forall_mem_cons.mpr ⟨lw_p224, List.forall_mem_cons.mpr ⟨lw_p225, List.forall_mem_cons.mpr ⟨lw_p226, List.forall_mem_cons.mpr ⟨lw_p227, List.forall_mem_cons.mpr ⟨lw_p228, List.forall_mem_cons.mpr ⟨lw_p229, List.forall_mem_cons.mpr ⟨lw_p230, List.forall_mem_cons.mpr ⟨lw_p231, List.forall_mem_cons.mpr ⟨lw_p232, List.forall_mem_cons.mpr ⟨lw_p233, List.forall_mem_cons.mpr ⟨lw_p234, List.forall_mem_cons.mpr ⟨lw_p235, List.forall_mem_cons.mpr ⟨lw_p236, List.forall_mem_cons.mpr ⟨lw_p237, List.forall_mem_cons.mpr ⟨lw_p238, List.forall_mem_cons.mpr ⟨lw_p239, fun _ h => absurd h List.not_mem_nil⟩⟩⟩⟩⟩⟩⟩⟩⟩⟩⟩⟩⟩⟩⟩⟩
theorem lw_p240 : lw_okq (⟨"ChessHouseModel$Board", "takeBack", "(II)V"⟩, 37) := ⟨⟨by decide +kernel, by decide +kernel⟩, List.mem_of_getElem? (i := 1863) (by decide +kernel), List.mem_of_getElem? (i := 2629) (by decide +kernel), List.mem_of_getElem? (i := 2630) (by decide +kernel)⟩
theorem lw_p241 : lw_okq (⟨"ChessHouseModel$Board", "isTooLittle", "()Z"⟩, 37) := ⟨⟨by decide +kernel, by decide +kernel⟩, List.mem_of_getElem? (i := 1863) (by decide +kernel), List.mem_of_getElem? (i := 2633) (by decide +kernel), List.mem_of_getElem? (i := 2634) (by decide +kernel)⟩
theorem lw_p242 : lw_okq (⟨"ChessHouseModel$Board", "occurrence", "()I"⟩, 37) := ⟨⟨by decide +kernel, by decide +kernel⟩, List.mem_of_getElem? (i := 1863) (by decide +kernel), List.mem_of_getElem? (i := 2637) (by decide +kernel), List.mem_of_getElem? (i := 2638) (by decide +kernel)⟩
theorem lw_p243 : lw_okq (⟨"ChessHouseModel$Board", "areMenSame", "(I)Z"⟩, 37) := ⟨⟨by decide +kernel, by decide +kernel⟩, List.mem_of_getElem? (i := 1863) (by decide +kernel), List.mem_of_getElem? (i := 2641) (by decide +kernel), List.mem_of_getElem? (i := 2642) (by decide +kernel)⟩
theorem lw_p244 : lw_okq (⟨"ChessHouseModel$Board", "mayTakeOn", "(I)Z"⟩, 37) := ⟨⟨by decide +kernel, by decide +kernel⟩, List.mem_of_getElem? (i := 1863) (by decide +kernel), List.mem_of_getElem? (i := 2645) (by decide +kernel), List.mem_of_getElem? (i := 2646) (by decide +kernel)⟩
theorem lw_p245 : lw_okq (⟨"ChessHouseModel", "isTooMuch", "(IJ)Z"⟩, 19) := ⟨⟨by decide +kernel, by decide +kernel⟩, List.mem_of_getElem? (i := 1601) (by decide +kernel), List.mem_of_getElem? (i := 2652) (by decide +kernel), List.mem_of_getElem? (i := 2653) (by decide +kernel)⟩
theorem lw_p246 : lw_okq (⟨"ChessHouseModel", "forceOf", "(I)I"⟩, 19) := ⟨⟨by decide +kernel, by decide +kernel⟩, List.mem_of_getElem? (i := 1601) (by decide +kernel), List.mem_of_getElem? (i := 2656) (by decide +kernel), List.mem_of_getElem? (i := 2657) (by decide +kernel)⟩
theorem lw_p247 : lw_okq (⟨"ChessHouseModel$Board", "ways", "(II)J"⟩, 37) := ⟨⟨by decide +kernel, by decide +kernel⟩, List.mem_of_getElem? (i := 1863) (by decide +kernel), List.mem_of_getElem? (i := 2660) (by decide +kernel), List.mem_of_getElem? (i := 2661) (by decide +kernel)⟩
theorem lw_p248 : lw_okq (⟨"ChessHouseModel$Board", "sightOf", "()I"⟩, 37) := ⟨⟨by decide +kernel, by decide +kernel⟩, List.mem_of_getElem? (i := 1863) (by decide +kernel), List.mem_of_getElem? (i := 2666) (by decide +kernel), List.mem_of_getElem? (i := 2667) (by decide +kernel)⟩
theorem lw_p249 : lw_okq (⟨"ChessHouseModel$Board", "worth", "(I)I"⟩, 37) := ⟨⟨by decide +kernel, by decide +kernel⟩, List.mem_of_getElem? (i := 1863) (by decide +kernel), List.mem_of_getElem? (i := 2670) (by decide +kernel), List.mem_of_getElem? (i := 2671) (by decide +kernel)⟩
theorem lw_p250 : lw_okq (⟨"ChessHouseModel$Board", "hasQueen", "(I)Z"⟩, 37) := ⟨⟨by decide +kernel, by decide +kernel⟩, List.mem_of_getElem? (i := 1863) (by decide +kernel), List.mem_of_getElem? (i := 2674) (by decide +kernel), List.mem_of_getElem? (i := 2675) (by decide +kernel)⟩
theorem lw_p251 : lw_okq (⟨"ChessHouseModel", "think", "(IZ)V"⟩, 19) := ⟨⟨by decide +kernel, by decide +kernel⟩, List.mem_of_getElem? (i := 1601) (by decide +kernel), List.mem_of_getElem? (i := 2683) (by decide +kernel), List.mem_of_getElem? (i := 2684) (by decide +kernel)⟩
theorem lw_p252 : lw_okq (⟨"ChessHouseModel$Board", "think", "(IZ)V"⟩, 37) := ⟨⟨by decide +kernel, by decide +kernel⟩, List.mem_of_getElem? (i := 1863) (by decide +kernel), List.mem_of_getElem? (i := 2688) (by decide +kernel), List.mem_of_getElem? (i := 2689) (by decide +kernel)⟩
theorem lw_p253 : lw_okq (⟨"ChessHouseModel$Board", "valueOfMove", "(III)I"⟩, 37) := ⟨⟨by decide +kernel, by decide +kernel⟩, List.mem_of_getElem? (i := 1863) (by decide +kernel), List.mem_of_getElem? (i := 2693) (by decide +kernel), List.mem_of_getElem? (i := 2694) (by decide +kernel)⟩
theorem lw_p254 : lw_okq (⟨"ChessHouseModel$Board", "valueOf", "(II)I"⟩, 37) := ⟨⟨by decide +kernel, by decide +kernel⟩, List.mem_of_getElem? (i := 1863) (by decide +kernel), List.mem_of_getElem? (i := 2697) (by decide +kernel), List.mem_of_getElem? (i := 2698) (by decide +kernel)⟩
theorem lw_p255 : lw_okq (⟨"ChessHouseModel$Board", "atEnd", "(I)I"⟩, 37) := ⟨⟨by decide +kernel, by decide +kernel⟩, List.mem_of_getElem? (i := 1863) (by decide +kernel), List.mem_of_getElem? (i := 2701) (by decide +kernel), List.mem_of_getElem? (i := 2702) (by decide +kernel)⟩
def lw_privs_16 : List (MethodName × Nat) := [(⟨"ChessHouseModel$Board", "takeBack", "(II)V"⟩, 37), (⟨"ChessHouseModel$Board", "isTooLittle", "()Z"⟩, 37), (⟨"ChessHouseModel$Board", "occurrence", "()I"⟩, 37), (⟨"ChessHouseModel$Board", "areMenSame", "(I)Z"⟩, 37), (⟨"ChessHouseModel$Board", "mayTakeOn", "(I)Z"⟩, 37), (⟨"ChessHouseModel", "isTooMuch", "(IJ)Z"⟩, 19), (⟨"ChessHouseModel", "forceOf", "(I)I"⟩, 19), (⟨"ChessHouseModel$Board", "ways", "(II)J"⟩, 37), (⟨"ChessHouseModel$Board", "sightOf", "()I"⟩, 37), (⟨"ChessHouseModel$Board", "worth", "(I)I"⟩, 37), (⟨"ChessHouseModel$Board", "hasQueen", "(I)Z"⟩, 37), (⟨"ChessHouseModel", "think", "(IZ)V"⟩, 19), (⟨"ChessHouseModel$Board", "think", "(IZ)V"⟩, 37), (⟨"ChessHouseModel$Board", "valueOfMove", "(III)I"⟩, 37), (⟨"ChessHouseModel$Board", "valueOf", "(II)I"⟩, 37), (⟨"ChessHouseModel$Board", "atEnd", "(I)I"⟩, 37)]
theorem lw_r16 : ∀ q ∈ lw_privs_16, lw_okq q := List.forall_mem_cons.mpr ⟨lw_p240, List.forall_mem_cons.mpr ⟨lw_p241, List.forall_mem_cons.mpr ⟨lw_p242, List.forall_mem_cons.mpr ⟨lw_p243, List.forall_mem_cons.mpr ⟨lw_p244, List.forall_mem_cons.mpr ⟨lw_p245, List.forall_mem_cons.mpr ⟨lw_p246, List.forall_mem_cons.mpr ⟨lw_p247, List.forall_mem_cons.mpr ⟨lw_p248, List.forall_mem_cons.mpr ⟨lw_p249, List.forall_mem_cons.mpr ⟨lw_p250, List.forall_mem_cons.mpr ⟨lw_p251, List.forall_mem_cons.mpr ⟨lw_p252, List.forall_mem_cons.mpr ⟨lw_p253, List.forall_mem_cons.mpr ⟨lw_p254, List.forall_mem_cons.mpr ⟨lw_p255, fun _ h => absurd h List.not_mem_nil⟩⟩⟩⟩⟩⟩⟩⟩⟩⟩⟩⟩⟩⟩⟩⟩
theorem lw_p256 : lw_okq (⟨"ChessHouseModel$Board", "stoodTwice", "(I)Z"⟩, 37) := ⟨⟨by decide +kernel, by decide +kernel⟩, List.mem_of_getElem? (i := 1863) (by decide +kernel), List.mem_of_getElem? (i := 2705) (by decide +kernel), List.mem_of_getElem? (i := 2706) (by decide +kernel)⟩
theorem lw_p257 : lw_okq (⟨"ChessHouseModel$Board", "calmOf", "(II)I"⟩, 37) := ⟨⟨by decide +kernel, by decide +kernel⟩, List.mem_of_getElem? (i := 1863) (by decide +kernel), List.mem_of_getElem? (i := 2709) (by decide +kernel), List.mem_of_getElem? (i := 2710) (by decide +kernel)⟩
theorem lw_p258 : lw_okq (⟨"ChessHouseModel$Board", "findLine", "()V"⟩, 37) := ⟨⟨by decide +kernel, by decide +kernel⟩, List.mem_of_getElem? (i := 1863) (by decide +kernel), List.mem_of_getElem? (i := 2715) (by decide +kernel), List.mem_of_getElem? (i := 2716) (by decide +kernel)⟩
theorem lw_p259 : lw_okq (⟨"ChessHouseModel$Board", "isSettled", "(II)Z"⟩, 37) := ⟨⟨by decide +kernel, by decide +kernel⟩, List.mem_of_getElem? (i := 1863) (by decide +kernel), List.mem_of_getElem? (i := 2719) (by decide +kernel), List.mem_of_getElem? (i := 2720) (by decide +kernel)⟩
theorem lw_p260 : lw_okq (⟨"ChessHouseModel$Board", "bestOf", "(II)I"⟩, 37) := ⟨⟨by decide +kernel, by decide +kernel⟩, List.mem_of_getElem? (i := 1863) (by decide +kernel), List.mem_of_getElem? (i := 2723) (by decide +kernel), List.mem_of_getElem? (i := 2724) (by decide +kernel)⟩
theorem lw_p261 : lw_okq (⟨"ChessHouseModel", "sayLine", "([II)V"⟩, 19) := ⟨⟨by decide +kernel, by decide +kernel⟩, List.mem_of_getElem? (i := 1601) (by decide +kernel), List.mem_of_getElem? (i := 2727) (by decide +kernel), List.mem_of_getElem? (i := 2728) (by decide +kernel)⟩
theorem lw_p262 : lw_okq (⟨"ChessHouseModel", "test", "(II)V"⟩, 19) := ⟨⟨by decide +kernel, by decide +kernel⟩, List.mem_of_getElem? (i := 1601) (by decide +kernel), List.mem_of_getElem? (i := 2735) (by decide +kernel), List.mem_of_getElem? (i := 2736) (by decide +kernel)⟩
theorem lw_p263 : lw_okq (⟨"ChessHouseModel", "ends", "()V"⟩, 19) := ⟨⟨by decide +kernel, by decide +kernel⟩, List.mem_of_getElem? (i := 1601) (by decide +kernel), List.mem_of_getElem? (i := 2742) (by decide +kernel), List.mem_of_getElem? (i := 2743) (by decide +kernel)⟩
theorem lw_p264 : lw_okq (⟨"ChessHouseModel$Ends", "isPosition", "(IIIII)Z"⟩, 14) := ⟨⟨by decide +kernel, by decide +kernel⟩, List.mem_of_getElem? (i := 2746) (by decide +kernel), List.mem_of_getElem? (i := 2801) (by decide +kernel), List.mem_of_getElem? (i := 2802) (by decide +kernel)⟩
theorem lw_p265 : lw_okq (⟨"ChessHouseModel$Ends", "isSquare", "(I)Z"⟩, 14) := ⟨⟨by decide +kernel, by decide +kernel⟩, List.mem_of_getElem? (i := 2746) (by decide +kernel), List.mem_of_getElem? (i := 2805) (by decide +kernel), List.mem_of_getElem? (i := 2806) (by decide +kernel)⟩
theorem lw_p266 : lw_okq (⟨"ChessHouseModel$Ends", "attacks", "(IIIII)Z"⟩, 14) := ⟨⟨by decide +kernel, by decide +kernel⟩, List.mem_of_getElem? (i := 2746) (by decide +kernel), List.mem_of_getElem? (i := 2815) (by decide +kernel), List.mem_of_getElem? (i := 2816) (by decide +kernel)⟩
theorem lw_p267 : lw_okq (⟨"ChessHouseModel$Ends", "step", "(III)I"⟩, 14) := ⟨⟨by decide +kernel, by decide +kernel⟩, List.mem_of_getElem? (i := 2746) (by decide +kernel), List.mem_of_getElem? (i := 2822) (by decide +kernel), List.mem_of_getElem? (i := 2823) (by decide +kernel)⟩
theorem lw_p268 : lw_okq (⟨"ChessHouseModel$Ends", "distanceOf", "(IIIII)I"⟩, 14) := ⟨⟨by decide +kernel, by decide +kernel⟩, List.mem_of_getElem? (i := 2746) (by decide +kernel), List.mem_of_getElem? (i := 2830) (by decide +kernel), List.mem_of_getElem? (i := 2831) (by decide +kernel)⟩
theorem lw_p269 : lw_okq (⟨"ChessHouseModel$Ends", "build", "(I)V"⟩, 14) := ⟨⟨by decide +kernel, by decide +kernel⟩, List.mem_of_getElem? (i := 2746) (by decide +kernel), List.mem_of_getElem? (i := 2834) (by decide +kernel), List.mem_of_getElem? (i := 2835) (by decide +kernel)⟩
theorem lw_p270 : lw_okq (⟨"ChessHouseModel$Ends", "build2", "(I)V"⟩, 14) := ⟨⟨by decide +kernel, by decide +kernel⟩, List.mem_of_getElem? (i := 2746) (by decide +kernel), List.mem_of_getElem? (i := 2838) (by decide +kernel), List.mem_of_getElem? (i := 2839) (by decide +kernel)⟩
theorem lw_p271 : lw_okq (⟨"ChessHouseModel$Ends", "passAll", "(II)V"⟩, 14) := ⟨⟨by decide +kernel, by decide +kernel⟩, List.mem_of_getElem? (i := 2746) (by decide +kernel), List.mem_of_getElem? (i := 2842) (by decide +kernel), List.mem_of_getElem? (i := 2843) (by decide +kernel)⟩
def lw_privs_17 : List (MethodName × Nat) := [(⟨"ChessHouseModel$Board", "stoodTwice", "(I)Z"⟩, 37), (⟨"ChessHouseModel$Board", "calmOf", "(II)I"⟩, 37), (⟨"ChessHouseModel$Board", "findLine", "()V"⟩, 37), (⟨"ChessHouseModel$Board", "isSettled", "(II)Z"⟩, 37), (⟨"ChessHouseModel$Board", "bestOf", "(II)I"⟩, 37), (⟨"ChessHouseModel", "sayLine", "([II)V"⟩, 19), (⟨"ChessHouseModel", "test", "(II)V"⟩, 19), (⟨"ChessHouseModel", "ends", "()V"⟩, 19), (⟨"ChessHouseModel$Ends", "isPosition", "(IIIII)Z"⟩, 14), (⟨"ChessHouseModel$Ends", "isSquare", "(I)Z"⟩, 14), (⟨"ChessHouseModel$Ends", "attacks", "(IIIII)Z"⟩, 14), (⟨"ChessHouseModel$Ends", "step", "(III)I"⟩, 14), (⟨"ChessHouseModel$Ends", "distanceOf", "(IIIII)I"⟩, 14), (⟨"ChessHouseModel$Ends", "build", "(I)V"⟩, 14), (⟨"ChessHouseModel$Ends", "build2", "(I)V"⟩, 14), (⟨"ChessHouseModel$Ends", "passAll", "(II)V"⟩, 14)]
theorem lw_r17 : ∀ q ∈ lw_privs_17, lw_okq q := List.forall_mem_cons.mpr ⟨lw_p256, List.forall_mem_cons.mpr ⟨lw_p257, List.forall_mem_cons.mpr ⟨lw_p258, List.forall_mem_cons.mpr ⟨lw_p259, List.forall_mem_cons.mpr ⟨lw_p260, List.forall_mem_cons.mpr ⟨lw_p261, List.forall_mem_cons.mpr ⟨lw_p262, List.forall_mem_cons.mpr ⟨lw_p263, List.forall_mem_cons.mpr ⟨lw_p264, List.forall_mem_cons.mpr ⟨lw_p265, List.forall_mem_cons.mpr ⟨lw_p266, List.forall_mem_cons.mpr ⟨lw_p267, List.forall_mem_cons.mpr ⟨lw_p268, List.forall_mem_cons.mpr ⟨lw_p269, List.forall_mem_cons.mpr ⟨lw_p270, List.forall_mem_cons.mpr ⟨lw_p271, fun _ h => absurd h List.not_mem_nil⟩⟩⟩⟩⟩⟩⟩⟩⟩⟩⟩⟩⟩⟩⟩⟩
theorem lw_p272 : lw_okq (⟨"ChessHouseModel$Ends", "pass", "(II)Z"⟩, 14) := ⟨⟨by decide +kernel, by decide +kernel⟩, List.mem_of_getElem? (i := 2746) (by decide +kernel), List.mem_of_getElem? (i := 2846) (by decide +kernel), List.mem_of_getElem? (i := 2847) (by decide +kernel)⟩
theorem lw_p273 : lw_okq (⟨"ChessHouseModel$Ends", "known", "(IIIII)I"⟩, 14) := ⟨⟨by decide +kernel, by decide +kernel⟩, List.mem_of_getElem? (i := 2746) (by decide +kernel), List.mem_of_getElem? (i := 2850) (by decide +kernel), List.mem_of_getElem? (i := 2851) (by decide +kernel)⟩
theorem lw_p274 : lw_okq (⟨"ChessHouseModel$Ends", "isLost", "(IIIIZ)Z"⟩, 14) := ⟨⟨by decide +kernel, by decide +kernel⟩, List.mem_of_getElem? (i := 2746) (by decide +kernel), List.mem_of_getElem? (i := 2859) (by decide +kernel), List.mem_of_getElem? (i := 2860) (by decide +kernel)⟩
theorem lw_p275 : lw_okq (⟨"ChessHouseModel$Ends", "mayGo", "(IIII)Z"⟩, 14) := ⟨⟨by decide +kernel, by decide +kernel⟩, List.mem_of_getElem? (i := 2746) (by decide +kernel), List.mem_of_getElem? (i := 2863) (by decide +kernel), List.mem_of_getElem? (i := 2864) (by decide +kernel)⟩
theorem lw_p276 : lw_okq (⟨"ChessHouseModel$Ends", "kingReaches", "(IIIII)Z"⟩, 14) := ⟨⟨by decide +kernel, by decide +kernel⟩, List.mem_of_getElem? (i := 2746) (by decide +kernel), List.mem_of_getElem? (i := 2867) (by decide +kernel), List.mem_of_getElem? (i := 2868) (by decide +kernel)⟩
theorem lw_p277 : lw_okq (⟨"ChessHouseModel$Ends", "reaches", "(IIIII)Z"⟩, 14) := ⟨⟨by decide +kernel, by decide +kernel⟩, List.mem_of_getElem? (i := 2746) (by decide +kernel), List.mem_of_getElem? (i := 2871) (by decide +kernel), List.mem_of_getElem? (i := 2872) (by decide +kernel)⟩
theorem lw_p278 : lw_okq (⟨"ChessHouseModel$Ends", "manReaches", "(IIIII)Z"⟩, 14) := ⟨⟨by decide +kernel, by decide +kernel⟩, List.mem_of_getElem? (i := 2746) (by decide +kernel), List.mem_of_getElem? (i := 2875) (by decide +kernel), List.mem_of_getElem? (i := 2876) (by decide +kernel)⟩
theorem lw_p279 : lw_okq (⟨"ChessHouseModel$Ends", "note", "(IIIIII)V"⟩, 14) := ⟨⟨by decide +kernel, by decide +kernel⟩, List.mem_of_getElem? (i := 2746) (by decide +kernel), List.mem_of_getElem? (i := 2879) (by decide +kernel), List.mem_of_getElem? (i := 2880) (by decide +kernel)⟩
theorem lw_p280 : lw_okq (⟨"ChessHouseModel", "sayChar", "(C)V"⟩, 19) := ⟨⟨by decide +kernel, by decide +kernel⟩, List.mem_of_getElem? (i := 1601) (by decide +kernel), List.mem_of_getElem? (i := 2883) (by decide +kernel), List.mem_of_getElem? (i := 2884) (by decide +kernel)⟩
theorem lw_p281 : lw_okq (⟨"ChessHouseModel$Ends", "findMoves", "()V"⟩, 14) := ⟨⟨by decide +kernel, by decide +kernel⟩, List.mem_of_getElem? (i := 2746) (by decide +kernel), List.mem_of_getElem? (i := 2891) (by decide +kernel), List.mem_of_getElem? (i := 2892) (by decide +kernel)⟩
theorem lw_p282 : lw_okq (⟨"ChessHouseModel$Ends", "kingGoes", "(I)Z"⟩, 14) := ⟨⟨by decide +kernel, by decide +kernel⟩, List.mem_of_getElem? (i := 2746) (by decide +kernel), List.mem_of_getElem? (i := 2895) (by decide +kernel), List.mem_of_getElem? (i := 2896) (by decide +kernel)⟩
theorem lw_p283 : lw_okq (⟨"ChessHouseModel$Ends", "add", "(I)V"⟩, 14) := ⟨⟨by decide +kernel, by decide +kernel⟩, List.mem_of_getElem? (i := 2746) (by decide +kernel), List.mem_of_getElem? (i := 2899) (by decide +kernel), List.mem_of_getElem? (i := 2900) (by decide +kernel)⟩
theorem lw_p284 : lw_okq (⟨"ChessHouseModel$Ends", "manGoes", "(I)Z"⟩, 14) := ⟨⟨by decide +kernel, by decide +kernel⟩, List.mem_of_getElem? (i := 2746) (by decide +kernel), List.mem_of_getElem? (i := 2903) (by decide +kernel), List.mem_of_getElem? (i := 2904) (by decide +kernel)⟩
theorem lw_p285 : lw_okq (⟨"ChessHouseModel$Ends", "bestOf", "()I"⟩, 14) := ⟨⟨by decide +kernel, by decide +kernel⟩, List.mem_of_getElem? (i := 2746) (by decide +kernel), List.mem_of_getElem? (i := 2911) (by decide +kernel), List.mem_of_getElem? (i := 2912) (by decide +kernel)⟩
theorem lw_p286 : lw_okq (⟨"ChessHouseModel$Ends", "behind", "(I)I"⟩, 14) := ⟨⟨by decide +kernel, by decide +kernel⟩, List.mem_of_getElem? (i := 2746) (by decide +kernel), List.mem_of_getElem? (i := 2915) (by decide +kernel), List.mem_of_getElem? (i := 2916) (by decide +kernel)⟩
theorem lw_p287 : lw_okq (⟨"ChessHouseModel", "solved", "()Z"⟩, 19) := ⟨⟨by decide +kernel, by decide +kernel⟩, List.mem_of_getElem? (i := 1601) (by decide +kernel), List.mem_of_getElem? (i := 2919) (by decide +kernel), List.mem_of_getElem? (i := 2920) (by decide +kernel)⟩
def lw_privs_18 : List (MethodName × Nat) := [(⟨"ChessHouseModel$Ends", "pass", "(II)Z"⟩, 14), (⟨"ChessHouseModel$Ends", "known", "(IIIII)I"⟩, 14), (⟨"ChessHouseModel$Ends", "isLost", "(IIIIZ)Z"⟩, 14), (⟨"ChessHouseModel$Ends", "mayGo", "(IIII)Z"⟩, 14), (⟨"ChessHouseModel$Ends", "kingReaches", "(IIIII)Z"⟩, 14), (⟨"ChessHouseModel$Ends", "reaches", "(IIIII)Z"⟩, 14), (⟨"ChessHouseModel$Ends", "manReaches", "(IIIII)Z"⟩, 14), (⟨"ChessHouseModel$Ends", "note", "(IIIIII)V"⟩, 14), (⟨"ChessHouseModel", "sayChar", "(C)V"⟩, 19), (⟨"ChessHouseModel$Ends", "findMoves", "()V"⟩, 14), (⟨"ChessHouseModel$Ends", "kingGoes", "(I)Z"⟩, 14), (⟨"ChessHouseModel$Ends", "add", "(I)V"⟩, 14), (⟨"ChessHouseModel$Ends", "manGoes", "(I)Z"⟩, 14), (⟨"ChessHouseModel$Ends", "bestOf", "()I"⟩, 14), (⟨"ChessHouseModel$Ends", "behind", "(I)I"⟩, 14), (⟨"ChessHouseModel", "solved", "()Z"⟩, 19)]
theorem lw_r18 : ∀ q ∈ lw_privs_18, lw_okq q := List.forall_mem_cons.mpr ⟨lw_p272, List.forall_mem_cons.mpr ⟨lw_p273, List.forall_mem_cons.mpr ⟨lw_p274, List.forall_mem_cons.mpr ⟨lw_p275, List.forall_mem_cons.mpr ⟨lw_p276, List.forall_mem_cons.mpr ⟨lw_p277, List.forall_mem_cons.mpr ⟨lw_p278, List.forall_mem_cons.mpr ⟨lw_p279, List.forall_mem_cons.mpr ⟨lw_p280, List.forall_mem_cons.mpr ⟨lw_p281, List.forall_mem_cons.mpr ⟨lw_p282, List.forall_mem_cons.mpr ⟨lw_p283, List.forall_mem_cons.mpr ⟨lw_p284, List.forall_mem_cons.mpr ⟨lw_p285, List.forall_mem_cons.mpr ⟨lw_p286, List.forall_mem_cons.mpr ⟨lw_p287, fun _ h => absurd h List.not_mem_nil⟩⟩⟩⟩⟩⟩⟩⟩⟩⟩⟩⟩⟩⟩⟩⟩
theorem lw_p288 : lw_okq (⟨"ChessHouseModel", "choice", "(ILjava/lang/String;Ljava/lang/String;)I"⟩, 19) := ⟨⟨by decide +kernel, by decide +kernel⟩, List.mem_of_getElem? (i := 1601) (by decide +kernel), List.mem_of_getElem? (i := 2926) (by decide +kernel), List.mem_of_getElem? (i := 2927) (by decide +kernel)⟩
theorem lw_p289 : lw_okq (⟨"ChessHouseModel", "keys", "(III)V"⟩, 19) := ⟨⟨by decide +kernel, by decide +kernel⟩, List.mem_of_getElem? (i := 1601) (by decide +kernel), List.mem_of_getElem? (i := 2932) (by decide +kernel), List.mem_of_getElem? (i := 2933) (by decide +kernel)⟩
theorem lw_p290 : lw_okq (⟨"ChessHouseModel$Board", "findKeys", "(III)V"⟩, 37) := ⟨⟨by decide +kernel, by decide +kernel⟩, List.mem_of_getElem? (i := 1863) (by decide +kernel), List.mem_of_getElem? (i := 2939) (by decide +kernel), List.mem_of_getElem? (i := 2940) (by decide +kernel)⟩
theorem lw_p291 : lw_okq (⟨"ChessHouseModel$Board", "solves", "(IIIII)Z"⟩, 37) := ⟨⟨by decide +kernel, by decide +kernel⟩, List.mem_of_getElem? (i := 1863) (by decide +kernel), List.mem_of_getElem? (i := 2943) (by decide +kernel), List.mem_of_getElem? (i := 2944) (by decide +kernel)⟩
theorem lw_p292 : lw_okq (⟨"ChessHouseModel$Board", "isBeaten", "(II)Z"⟩, 37) := ⟨⟨by decide +kernel, by decide +kernel⟩, List.mem_of_getElem? (i := 1863) (by decide +kernel), List.mem_of_getElem? (i := 2947) (by decide +kernel), List.mem_of_getElem? (i := 2948) (by decide +kernel)⟩
theorem lw_p293 : lw_okq (⟨"ChessHouseModel$Board", "isAnswered", "(IIIII)Z"⟩, 37) := ⟨⟨by decide +kernel, by decide +kernel⟩, List.mem_of_getElem? (i := 1863) (by decide +kernel), List.mem_of_getElem? (i := 2951) (by decide +kernel), List.mem_of_getElem? (i := 2952) (by decide +kernel)⟩
theorem lw_p294 : lw_okq (⟨"ChessHouseModel$Board", "isSolved", "(IIII)Z"⟩, 37) := ⟨⟨by decide +kernel, by decide +kernel⟩, List.mem_of_getElem? (i := 1863) (by decide +kernel), List.mem_of_getElem? (i := 2955) (by decide +kernel), List.mem_of_getElem? (i := 2956) (by decide +kernel)⟩
theorem lw_p295 : lw_okq (⟨"ChessHouseModel", "least", "(III)V"⟩, 19) := ⟨⟨by decide +kernel, by decide +kernel⟩, List.mem_of_getElem? (i := 1601) (by decide +kernel), List.mem_of_getElem? (i := 2960) (by decide +kernel), List.mem_of_getElem? (i := 2961) (by decide +kernel)⟩
theorem lw_p296 : lw_okq (⟨"ChessHouseModel", "refute", "(III)V"⟩, 19) := ⟨⟨by decide +kernel, by decide +kernel⟩, List.mem_of_getElem? (i := 1601) (by decide +kernel), List.mem_of_getElem? (i := 2966) (by decide +kernel), List.mem_of_getElem? (i := 2967) (by decide +kernel)⟩
theorem lw_p297 : lw_okq (⟨"ChessHouseModel$Board", "refutation", "(IIII)I"⟩, 37) := ⟨⟨by decide +kernel, by decide +kernel⟩, List.mem_of_getElem? (i := 1863) (by decide +kernel), List.mem_of_getElem? (i := 2970) (by decide +kernel), List.mem_of_getElem? (i := 2971) (by decide +kernel)⟩
theorem lw_p298 : lw_okq (⟨"ChessHouseModel", "help", "(III)I"⟩, 19) := ⟨⟨by decide +kernel, by decide +kernel⟩, List.mem_of_getElem? (i := 1601) (by decide +kernel), List.mem_of_getElem? (i := 2975) (by decide +kernel), List.mem_of_getElem? (i := 2976) (by decide +kernel)⟩
theorem lw_p299 : lw_okq (⟨"ChessHouseModel$Board", "countLines", "(III)I"⟩, 37) := ⟨⟨by decide +kernel, by decide +kernel⟩, List.mem_of_getElem? (i := 1863) (by decide +kernel), List.mem_of_getElem? (i := 2979) (by decide +kernel), List.mem_of_getElem? (i := 2980) (by decide +kernel)⟩
theorem lw_p300 : lw_okq (⟨"ChessHouseModel", "helpLine", "(III)V"⟩, 19) := ⟨⟨by decide +kernel, by decide +kernel⟩, List.mem_of_getElem? (i := 1601) (by decide +kernel), List.mem_of_getElem? (i := 2985) (by decide +kernel), List.mem_of_getElem? (i := 2986) (by decide +kernel)⟩
def lw_privs_19 : List (MethodName × Nat) := [(⟨"ChessHouseModel", "choice", "(ILjava/lang/String;Ljava/lang/String;)I"⟩, 19), (⟨"ChessHouseModel", "keys", "(III)V"⟩, 19), (⟨"ChessHouseModel$Board", "findKeys", "(III)V"⟩, 37), (⟨"ChessHouseModel$Board", "solves", "(IIIII)Z"⟩, 37), (⟨"ChessHouseModel$Board", "isBeaten", "(II)Z"⟩, 37), (⟨"ChessHouseModel$Board", "isAnswered", "(IIIII)Z"⟩, 37), (⟨"ChessHouseModel$Board", "isSolved", "(IIII)Z"⟩, 37), (⟨"ChessHouseModel", "least", "(III)V"⟩, 19), (⟨"ChessHouseModel", "refute", "(III)V"⟩, 19), (⟨"ChessHouseModel$Board", "refutation", "(IIII)I"⟩, 37), (⟨"ChessHouseModel", "help", "(III)I"⟩, 19), (⟨"ChessHouseModel$Board", "countLines", "(III)I"⟩, 37), (⟨"ChessHouseModel", "helpLine", "(III)V"⟩, 19)]
theorem lw_r19 : ∀ q ∈ lw_privs_19, lw_okq q := List.forall_mem_cons.mpr ⟨lw_p288, List.forall_mem_cons.mpr ⟨lw_p289, List.forall_mem_cons.mpr ⟨lw_p290, List.forall_mem_cons.mpr ⟨lw_p291, List.forall_mem_cons.mpr ⟨lw_p292, List.forall_mem_cons.mpr ⟨lw_p293, List.forall_mem_cons.mpr ⟨lw_p294, List.forall_mem_cons.mpr ⟨lw_p295, List.forall_mem_cons.mpr ⟨lw_p296, List.forall_mem_cons.mpr ⟨lw_p297, List.forall_mem_cons.mpr ⟨lw_p298, List.forall_mem_cons.mpr ⟨lw_p299, List.forall_mem_cons.mpr ⟨lw_p300, fun _ h => absurd h List.not_mem_nil⟩⟩⟩⟩⟩⟩⟩⟩⟩⟩⟩⟩⟩
def lw_privs : List (MethodName × Nat) := lw_privs_1 ++ (lw_privs_2 ++ (lw_privs_3 ++ (lw_privs_4 ++ (lw_privs_5 ++ (lw_privs_6 ++ (lw_privs_7 ++ (lw_privs_8 ++ (lw_privs_9 ++ (lw_privs_10 ++ (lw_privs_11 ++ (lw_privs_12 ++ (lw_privs_13 ++ (lw_privs_14 ++ (lw_privs_15 ++ (lw_privs_16 ++ (lw_privs_17 ++ (lw_privs_18 ++ (lw_privs_19))))))))))))))))))
def lw_tbl : List Cond := k2_sels lw_privs ++ tables_1
theorem lw_privs_ok : ∀ q ∈ lw_privs, lw_okq q := by
  show ∀ q ∈ lw_privs_1 ++ (lw_privs_2 ++ (lw_privs_3 ++ (lw_privs_4 ++ (lw_privs_5 ++ (lw_privs_6 ++ (lw_privs_7 ++ (lw_privs_8 ++ (lw_privs_9 ++ (lw_privs_10 ++ (lw_privs_11 ++ (lw_privs_12 ++ (lw_privs_13 ++ (lw_privs_14 ++ (lw_privs_15 ++ (lw_privs_16 ++ (lw_privs_17 ++ (lw_privs_18 ++ (lw_privs_19)))))))))))))))))), lw_okq q
  exact List.forall_mem_append.mpr ⟨lw_r1, List.forall_mem_append.mpr ⟨lw_r2, List.forall_mem_append.mpr ⟨lw_r3, List.forall_mem_append.mpr ⟨lw_r4, List.forall_mem_append.mpr ⟨lw_r5, List.forall_mem_append.mpr ⟨lw_r6, List.forall_mem_append.mpr ⟨lw_r7, List.forall_mem_append.mpr ⟨lw_r8, List.forall_mem_append.mpr ⟨lw_r9, List.forall_mem_append.mpr ⟨lw_r10, List.forall_mem_append.mpr ⟨lw_r11, List.forall_mem_append.mpr ⟨lw_r12, List.forall_mem_append.mpr ⟨lw_r13, List.forall_mem_append.mpr ⟨lw_r14, List.forall_mem_append.mpr ⟨lw_r15, List.forall_mem_append.mpr ⟨lw_r16, List.forall_mem_append.mpr ⟨lw_r17, List.forall_mem_append.mpr ⟨lw_r18, lw_r19⟩⟩⟩⟩⟩⟩⟩⟩⟩⟩⟩⟩⟩⟩⟩⟩⟩⟩
-- ===== end of PART A; then your names; then what follows =====
end
section
/-! THE J KIT: the machine over pictures. A method runs over ONE picture of all cells that the claim has made (places 0 .. n-1 above a base B): no frame rule is wanted. -/
abbrev jv : Type := Int32 ⊕ (Int64 ⊕ Option (Nat ⊕ Nat))
abbrev jcell : Type := (FieldType × vp_A) ⊕ (Nat × List jv)
abbrev jE : Type := va_G × (FieldType → ClassId) × (Nat → Nat) × Nat
abbrev jTb : Type := Nat → Option (String × String × String × FieldType × Nat × (Nat → Int32))
/-- a picture's value as the machine has it -/
def jc (E : jE) (v : jv) : Value := match v with
  | .inl x => .int x
  | .inr (.inl x) => .long x
  | .inr (.inr none) => .null
  | .inr (.inr (some (.inl k))) => .ref (E.2.2.2 + k)
  | .inr (.inr (some (.inr j))) => .ref (E.2.2.1 j)
def je (E : jE) (x : jcell) : va_E := match x with
  | .inl a => .inl (E.2.1 a.1, a.2)
  | .inr o => .inr (o.1, o.2.map (jc E))
def jW (E : jE) (cl : List vw_C) (σ : Nat → jcell) (n : Nat) (H : Heap) : Prop :=
  H.size = E.2.2.2 + n ∧ ∀ k, k < n → va_at E.1 cl (E.2.2.2 + k, je E (σ k)) H
def jA (E : jE) : Nat → Prop := fun q => E.2.2.2 ≤ q
def jup (σ : Nat → jcell) (k : Nat) (x : jcell) : Nat → jcell := fun j => if j = k then x else σ j
theorem jup_s {σ : Nat → jcell} {k : Nat} {x : jcell} : jup σ k x k = x := if_pos rfl
theorem jup_n {σ : Nat → jcell} {k j : Nat} {x : jcell} (h : j ≠ k) : jup σ k x j = σ j := if_neg h
/-- the element types of the arrays that pictures hold -/
def jtys : List FieldType := [.int, .byte, .char, .long, .boolean]
def jtyl (E : jE) : List (ClassId × FieldType) := jtys.map (fun t => (E.2.1 t, t))
/-- constant tables: a static field holds an array that never changes -/
def jSt (E : jE) (tb : jTb) (U : State) : Prop := ∀ (j : Nat) (x : String × String × String × FieldType × Nat × (Nat → Int32)), tb j = some x →
  va_Z x.1 x.2.1 x.2.2.1 (.ref (E.2.2.1 j)) (jA E) U U.heap ∧ va_T x.2.2.2.1 (E.2.2.1 j) x.2.2.2.2.1 (fun i => .int (x.2.2.2.2.2 i)) (jA E) U U.heap
/-- the words that every reader may carry, and those of nest mates -/
def jgood (w : Jvm.Cond) : Bool := (w.onTables && w.keeps) || (match w with
  | .arrayClass _ => true
  | _ => false)
def jnest (w : Jvm.Cond) : Bool := match w with
  | .fieldLinkNest .. => true
  | .methodLinkNest .. => true
  | _ => false
def jTA (Ts : List Jvm.Cond) : List Jvm.Cond := Ts.filter jgood
def jNW (Ts : List Jvm.Cond) : List Jvm.Cond := Ts.filter jnest
theorem jTA_in {Ts : List Jvm.Cond} {wi : Nat} {w : Jvm.Cond} (h : Ts[wi]? = some w) (hg : jgood w = true) : w ∈ jTA Ts := List.mem_filter.mpr ⟨List.mem_of_getElem? h, hg⟩
def jK (E : jE) (cl : List vw_C) (tb : jTb) (Ts : List Jvm.Cond) (U : State) : Prop := va_K E.1 cl (jtyl E) U ∧ jSt E tb U ∧ E.2.2.2 ≤ U.heap.size ∧ ∀ w ∈ jNW Ts, va_Nw w U
/-! locals -/
def jcat (v : jv) : Nat := match v with
  | .inr (.inl _) => 2
  | _ => 1
def jlv (E : jE) (ls : Array Slot) (nL : Nat) (lv : List (Option jv)) : Prop := ls.size = nL ∧ lv_wf ls ∧ ∀ (i : Nat) (v : jv), lv[i]? = some (some v) → ls[i]? = some (.val (jc E v))
def jpr (E : jE) : Nat → List (Option jv) → List (Nat × Value)
  | _, [] => []
  | i, none :: r => jpr E (i + 1) r
  | i, some v :: r => (i, jc E v) :: jpr E (i + 1) r
def jkill (lv : List (Option jv)) (i : Nat) : List (Option jv) := match i with
  | 0 => lv
  | j + 1 => match lv[j]? with
    | some (some (.inr (.inl _))) => lv.set j none
    | _ => lv
def jset1 (lv : List (Option jv)) (i : Nat) (v : jv) : List (Option jv) := (jkill lv i).set i (some v)
def jset2 (lv : List (Option jv)) (i : Nat) (v : jv) : List (Option jv) := ((jkill lv i).set i (some v)).set (i + 1) none
/-! one instruction over a picture -/
abbrev jN : Type := Nat → List (Option jv) → List jv → (Nat → jcell) → Prop
/-- what an instruction carries besides: two numbers (class and field; the jump's goal), the place of its word, an int, a long -/
abbrev jP : Type := Nat × Nat × Nat × Int32 × Int64
abbrev jI : Type := Instr × Nat × jP
def j1 (st : List jv) (f : Int32 → List jv → Prop) : Prop := match st with
  | .inl x :: r => f x r
  | _ => False
def j2 (st : List jv) (f : Int32 → Int32 → List jv → Prop) : Prop := match st with
  | .inl y :: .inl x :: r => f x y r
  | _ => False
def jl1 (st : List jv) (f : Int64 → List jv → Prop) : Prop := match st with
  | .inr (.inl x) :: r => f x r
  | _ => False
def jl2 (st : List jv) (f : Int64 → Int64 → List jv → Prop) : Prop := match st with
  | .inr (.inl y) :: .inr (.inl x) :: r => f x y r
  | _ => False
def jli (st : List jv) (f : Int64 → Int32 → List jv → Prop) : Prop := match st with
  | .inl y :: .inr (.inl x) :: r => f x y r
  | _ => False
def ja1 (st : List jv) (f : Option (Nat ⊕ Nat) → List jv → Prop) : Prop := match st with
  | .inr (.inr a) :: r => f a r
  | _ => False
def jldi (lv : List (Option jv)) (i : Nat) (f : Int32 → Prop) : Prop := match lv[i]? with
  | some (some (.inl x)) => f x
  | _ => False
def jldl (lv : List (Option jv)) (i : Nat) (f : Int64 → Prop) : Prop := match lv[i]? with
  | some (some (.inr (.inl x))) => f x
  | _ => False
def jlda (lv : List (Option jv)) (i : Nat) (f : Option (Nat ⊕ Nat) → Prop) : Prop := match lv[i]? with
  | some (some (.inr (.inr a))) => f a
  | _ => False
def jbr (c : Jvm.ClassFile.Cond) (x y : Int32) (A B : Prop) : Prop := match c with
  | .eq => (x = y → A) ∧ (¬ x = y → B)
  | .ne => (¬ x = y → A) ∧ (x = y → B)
  | .lt => (x < y → A) ∧ (¬ x < y → B)
  | .ge => (y ≤ x → A) ∧ (¬ y ≤ x → B)
  | .gt => (y < x → A) ∧ (¬ y < x → B)
  | .le => (x ≤ y → A) ∧ (¬ x ≤ y → B)
/-- an array of ints, bytes, chars or booleans is read -/
def jald (tb : jTb) (σ : Nat → jcell) (n : Nat) (ty : FieldType) (st : List jv) (f : Int32 → List jv → Prop) : Prop := match st with
  | .inl i :: .inr (.inr (some (.inl a))) :: r => a < n ∧ (match σ a with
    | .inl (t, len, .inl g) => t = ty ∧ vp_in i len ∧ f (g i.toNatClampNeg) r
    | _ => False)
  | .inl i :: .inr (.inr (some (.inr j))) :: r => (match tb j with
    | some (_, _, _, t, len, g) => t = ty ∧ vp_in i len ∧ f (g i.toNatClampNeg) r
    | none => False)
  | _ => False
def jast (σ : Nat → jcell) (n : Nat) (ty : FieldType) (st : List jv) (f : (Nat → jcell) → List jv → Prop) : Prop := match st with
  | .inl x :: .inl i :: .inr (.inr (some (.inl a))) :: r => a < n ∧ (match σ a with
    | .inl (t, len, .inl g) => t = ty ∧ vp_in i len ∧ f (jup σ a (.inl (t, len, .inl (upd g i.toNatClampNeg (vp_nar ty x))))) r
    | _ => False)
  | _ => False
def jlald (σ : Nat → jcell) (n : Nat) (st : List jv) (f : Int64 → List jv → Prop) : Prop := match st with
  | .inl i :: .inr (.inr (some (.inl a))) :: r => a < n ∧ (match σ a with
    | .inl (t, len, .inr (.inl g)) => t = .long ∧ vp_in i len ∧ f (g i.toNatClampNeg) r
    | _ => False)
  | _ => False
def jlast (σ : Nat → jcell) (n : Nat) (st : List jv) (f : (Nat → jcell) → List jv → Prop) : Prop := match st with
  | .inr (.inl x) :: .inl i :: .inr (.inr (some (.inl a))) :: r => a < n ∧ (match σ a with
    | .inl (t, len, .inr (.inl g)) => t = .long ∧ vp_in i len ∧ f (jup σ a (.inl (t, len, .inr (.inl (vp_updL g i.toNatClampNeg x))))) r
    | _ => False)
  | _ => False
def jalen (tb : jTb) (σ : Nat → jcell) (n : Nat) (st : List jv) (f : Int32 → List jv → Prop) : Prop := match st with
  | .inr (.inr (some (.inl a))) :: r => a < n ∧ (match σ a with
    | .inl (t, len, _) => t ∈ jtys ∧ f (Int32.ofNat len) r
    | _ => False)
  | .inr (.inr (some (.inr j))) :: r => (match tb j with
    | some (_, _, _, _, len, _) => f (Int32.ofNat len) r
    | none => False)
  | _ => False
def jget (σ : Nat → jcell) (n ci k : Nat) (st : List jv) (f : jv → List jv → Prop) : Prop := match st with
  | .inr (.inr (some (.inl a))) :: r => a < n ∧ (match σ a with
    | .inr (c, fs) => c = ci ∧ (match fs[k]? with
      | some v => f v r
      | none => False)
    | _ => False)
  | _ => False
/-- what may be stored in a field: 0 an int, 1 a boolean, 2 a long, 3 a reference -/
def jfit (kd : Nat) (v : jv) : Prop := match kd, v with
  | 0, .inl _ => True
  | 1, .inl x => x = 0 ∨ x = 1
  | 2, .inr (.inl _) => True
  | 3, .inr (.inr _) => True
  | _, _ => False
def jput (σ : Nat → jcell) (n ci k kd : Nat) (st : List jv) (f : (Nat → jcell) → List jv → Prop) : Prop := match st with
  | v :: .inr (.inr (some (.inl a))) :: r => a < n ∧ (match σ a with
    | .inr (c, fs) => c = ci ∧ k < fs.length ∧ jfit kd v ∧ f (jup σ a (.inr (c, fs.set k v))) r
    | _ => False)
  | _ => False
def jdup (st : List jv) (f : jv → List jv → Prop) : Prop := match st with
  | v :: r => jcat v = 1 ∧ f v r
  | _ => False
def jdupx (st : List jv) (f : jv → jv → List jv → Prop) : Prop := match st with
  | v :: w :: r => jcat v = 1 ∧ jcat w = 1 ∧ f v w r
  | _ => False
def jdupx2 (st : List jv) (f : jv → jv → jv → List jv → Prop) : Prop := match st with
  | v :: w :: z :: r => jcat v = 1 ∧ jcat w = 1 ∧ jcat z = 1 ∧ f v w z r
  | _ => False
def jdup2 (st : List jv) (f : List jv → Prop) : Prop := match st with
  | .inr (.inl x) :: r => f (.inr (.inl x) :: .inr (.inl x) :: r)
  | v :: w :: r => jcat v = 1 ∧ jcat w = 1 ∧ f (v :: w :: v :: w :: r)
  | _ => False
def jstep (tb : jTb) (n : Nat) (I : Instr) (ln : Nat) (py : jP) (pc : Nat) (lv : List (Option jv)) (st : List jv) (σ : Nat → jcell) (nx lf : jN) : Prop := match I with
  | .aconst_null => nx (pc + ln) lv (.inr (.inr none) :: st) σ
  | .iconst _ => nx (pc + ln) lv (.inl py.2.2.2.1 :: st) σ
  | .bipush _ => nx (pc + ln) lv (.inl py.2.2.2.1 :: st) σ
  | .sipush _ => nx (pc + ln) lv (.inl py.2.2.2.1 :: st) σ
  | .ldc _ => nx (pc + ln) lv (.inl py.2.2.2.1 :: st) σ
  | .lconst _ => nx (pc + ln) lv (.inr (.inl py.2.2.2.2) :: st) σ
  | .ldc2_w _ => nx (pc + ln) lv (.inr (.inl py.2.2.2.2) :: st) σ
  | .iload_n _ => jldi lv py.1 fun x => nx (pc + ln) lv (.inl x :: st) σ
  | .iload k => jldi lv k fun x => nx (pc + ln) lv (.inl x :: st) σ
  | .lload_n _ => jldl lv py.1 fun x => nx (pc + ln) lv (.inr (.inl x) :: st) σ
  | .lload k => jldl lv k fun x => nx (pc + ln) lv (.inr (.inl x) :: st) σ
  | .aload_n _ => jlda lv py.1 fun x => nx (pc + ln) lv (.inr (.inr x) :: st) σ
  | .aload k => jlda lv k fun x => nx (pc + ln) lv (.inr (.inr x) :: st) σ
  | .istore_n _ => j1 st fun x r => nx (pc + ln) (jset1 lv py.1 (.inl x)) r σ
  | .istore k => j1 st fun x r => nx (pc + ln) (jset1 lv k (.inl x)) r σ
  | .lstore_n _ => jl1 st fun x r => nx (pc + ln) (jset2 lv py.1 (.inr (.inl x))) r σ
  | .lstore k => jl1 st fun x r => nx (pc + ln) (jset2 lv k (.inr (.inl x))) r σ
  | .astore_n _ => ja1 st fun x r => nx (pc + ln) (jset1 lv py.1 (.inr (.inr x))) r σ
  | .astore k => ja1 st fun x r => nx (pc + ln) (jset1 lv k (.inr (.inr x))) r σ
  | .iinc k _ => jldi lv k fun x => nx (pc + ln) (jset1 lv k (.inl (x + py.2.2.2.1))) st σ
  | .iadd => j2 st fun x y r => nx (pc + ln) lv (.inl (x + y) :: r) σ
  | .isub => j2 st fun x y r => nx (pc + ln) lv (.inl (x - y) :: r) σ
  | .imul => j2 st fun x y r => nx (pc + ln) lv (.inl (x * y) :: r) σ
  | .iand => j2 st fun x y r => nx (pc + ln) lv (.inl (x &&& y) :: r) σ
  | .ior => j2 st fun x y r => nx (pc + ln) lv (.inl (x ||| y) :: r) σ
  | .ixor => j2 st fun x y r => nx (pc + ln) lv (.inl (x ^^^ y) :: r) σ
  | .idiv => j2 st fun x y r => ¬ y = 0 ∧ nx (pc + ln) lv (.inl (x / y) :: r) σ
  | .irem => j2 st fun x y r => ¬ y = 0 ∧ nx (pc + ln) lv (.inl (x - x / y * y) :: r) σ
  | .ishl => j2 st fun x y r => nx (pc + ln) lv (.inl (x <<< (y &&& 31)) :: r) σ
  | .ishr => j2 st fun x y r => nx (pc + ln) lv (.inl (x >>> (y &&& 31)) :: r) σ
  | .iushr => j2 st fun x y r => nx (pc + ln) lv (.inl (x.toUInt32 >>> (y.toUInt32 &&& Int32.toUInt32 31)).toInt32 :: r) σ
  | .ineg => j1 st fun x r => nx (pc + ln) lv (.inl (-x) :: r) σ
  | .ladd => jl2 st fun x y r => nx (pc + ln) lv (.inr (.inl (x + y)) :: r) σ
  | .lsub => jl2 st fun x y r => nx (pc + ln) lv (.inr (.inl (x - y)) :: r) σ
  | .lmul => jl2 st fun x y r => nx (pc + ln) lv (.inr (.inl (x * y)) :: r) σ
  | .land => jl2 st fun x y r => nx (pc + ln) lv (.inr (.inl (x &&& y)) :: r) σ
  | .lor => jl2 st fun x y r => nx (pc + ln) lv (.inr (.inl (x ||| y)) :: r) σ
  | .lxor => jl2 st fun x y r => nx (pc + ln) lv (.inr (.inl (x ^^^ y)) :: r) σ
  | .ldiv => jl2 st fun x y r => ¬ y = 0 ∧ nx (pc + ln) lv (.inr (.inl (x / y)) :: r) σ
  | .lrem => jl2 st fun x y r => ¬ y = 0 ∧ nx (pc + ln) lv (.inr (.inl (x - x / y * y)) :: r) σ
  | .lneg => jl1 st fun x r => nx (pc + ln) lv (.inr (.inl (-x)) :: r) σ
  | .lshl => jli st fun x y r => nx (pc + ln) lv (.inr (.inl (x <<< (y.toInt64 &&& 63))) :: r) σ
  | .lshr => jli st fun x y r => nx (pc + ln) lv (.inr (.inl (x >>> (y.toInt64 &&& 63))) :: r) σ
  | .lushr => jli st fun x y r => nx (pc + ln) lv (.inr (.inl (x.toUInt64 >>> (y.toInt64.toUInt64 &&& Int64.toUInt64 63)).toInt64) :: r) σ
  | .lcmp => jl2 st fun x y r => nx (pc + ln) lv (.inl (lg_cmp x y) :: r) σ
  | .i2l => j1 st fun x r => nx (pc + ln) lv (.inr (.inl x.toInt64) :: r) σ
  | .l2i => jl1 st fun x r => nx (pc + ln) lv (.inl x.toInt32 :: r) σ
  | .i2b => j1 st fun x r => nx (pc + ln) lv (.inl x.toInt8.toInt32 :: r) σ
  | .i2c => j1 st fun x r => nx (pc + ln) lv (.inl (x.toUInt32 % 65536).toInt32 :: r) σ
  | .dup => jdup st fun v r => nx (pc + ln) lv (v :: v :: r) σ
  | .pop => jdup st fun _ r => nx (pc + ln) lv r σ
  | .dup_x1 => jdupx st fun v w r => nx (pc + ln) lv (v :: w :: v :: r) σ
  | .dup_x2 => jdupx2 st fun v w z r => nx (pc + ln) lv (v :: w :: z :: v :: r) σ
  | .dup2 => jdup2 st fun r => nx (pc + ln) lv r σ
  | .ifCond c _ => j1 st fun x r => jbr c x 0 (lf py.1 lv r σ) (nx (pc + ln) lv r σ)
  | .if_icmp c _ => j2 st fun x y r => jbr c x y (lf py.1 lv r σ) (nx (pc + ln) lv r σ)
  | .ifnull _ => ja1 st fun a r => (a = none → lf py.1 lv r σ) ∧ (¬ a = none → nx (pc + ln) lv r σ)
  | .ifnonnull _ => ja1 st fun a r => (¬ a = none → lf py.1 lv r σ) ∧ (a = none → nx (pc + ln) lv r σ)
  | .goto _ => lf py.1 lv st σ
  | .iaload => jald tb σ n .int st fun x r => nx (pc + ln) lv (.inl x :: r) σ
  | .caload => jald tb σ n .char st fun x r => nx (pc + ln) lv (.inl x :: r) σ
  | .baload => jald tb σ n (if py.1 = 0 then .byte else .boolean) st fun x r => nx (pc + ln) lv (.inl x :: r) σ
  | .laload => jlald σ n st fun x r => nx (pc + ln) lv (.inr (.inl x) :: r) σ
  | .iastore => jast σ n .int st fun σ' r => nx (pc + ln) lv r σ'
  | .castore => jast σ n .char st fun σ' r => nx (pc + ln) lv r σ'
  | .bastore => jast σ n (if py.1 = 0 then .byte else .boolean) st fun σ' r => nx (pc + ln) lv r σ'
  | .lastore => jlast σ n st fun σ' r => nx (pc + ln) lv r σ'
  | .arraylength => jalen tb σ n st fun x r => nx (pc + ln) lv (.inl x :: r) σ
  | .getfield _ => jget σ n py.1 py.2.1 st fun v r => nx (pc + ln) lv (v :: r) σ
  | .putfield _ => jput σ n py.1 py.2.1 py.2.2.2.1.toNatClampNeg st fun σ' r => nx (pc + ln) lv r σ'
  | .getstatic _ => nx (pc + ln) lv (.inr (.inr (some (.inr py.1))) :: st) σ
  | _ => False
def jrun (tb : jTb) (n : Nat) : List jI → Nat → List (Option jv) → List jv → (Nat → jcell) → jN → Prop
  | [], pc, lv, st, σ, K => K pc lv st σ
  | i :: r, pc, lv, st, σ, K => jstep tb n i.1 i.2.1 i.2.2 pc lv st σ (fun a b c d => jrun tb n r a b c d K) K
end
section
/-! the static check of an instruction: what it decodes to, its word in the tables -/
def jkd (t : Option FieldType) : Nat := match t with
  | some .int => 0
  | some .boolean => 1
  | some .long => 2
  | some (.object _) => 3
  | some (.array _) => 3
  | _ => 9
/-- the word of a field's link: its own, or that of a nest mate's private field -/
def jlk (Ts : List Jvm.Cond) (wi : Nat) (own : String) (i : Nat) (ref nm ds : String) : Bool := match Ts[wi]? with
  | some (Jvm.Cond.fieldLink a b c e f) => decide (a = own) && decide (b = i) && decide (c = ref) && decide (e = nm) && decide (f = ds)
  | some (Jvm.Cond.fieldLinkNest a b c e f _) => decide (a = own) && decide (b = i) && decide (c = ref) && decide (e = nm) && decide (f = ds)
  | _ => false
theorem jlk_or {Ts : List Jvm.Cond} {wi : Nat} {own : String} {i : Nat} {ref nm ds : String} (h : jlk Ts wi own i ref nm ds = true) : Jvm.Cond.fieldLink own i ref nm ds ∈ jTA Ts ∨ ∃ host, Jvm.Cond.fieldLinkNest own i ref nm ds host ∈ jNW Ts := by
  unfold jlk at h
  split at h
  next hw =>
    simp only [Bool.and_eq_true, decide_eq_true_eq] at h
    obtain ⟨⟨⟨⟨rfl, rfl⟩, rfl⟩, rfl⟩, rfl⟩ := h
    exact Or.inl (jTA_in hw rfl)
  next hw =>
    simp only [Bool.and_eq_true, decide_eq_true_eq] at h
    obtain ⟨⟨⟨⟨rfl, rfl⟩, rfl⟩, rfl⟩, rfl⟩ := h
    exact Or.inr ⟨_, List.mem_filter.mpr ⟨List.mem_of_getElem? hw, rfl⟩⟩
  next => cases h
def jokF (own : String) (Ts : List Jvm.Cond) (cl : List vw_C) (i : Nat) (py : jP) : Bool := match cl[py.1]? with
  | some q => decide (py.2.1 < q.2.2) && jlk Ts py.2.2.1 own i (q.2.1 py.2.1).1 (q.2.1 py.2.1).2.1 (q.2.1 py.2.1).2.2.1
  | none => false
def jokW (own : String) (Ts : List Jvm.Cond) (cl : List vw_C) (ini : Bool) (i : Nat) (py : jP) : Bool := match cl[py.1]? with
  | some q => (!(q.2.1 py.2.1).2.2.2 || (ini && decide ((q.2.1 py.2.1).1 = own) && decide (Ts[py.2.2.1]? = some (Jvm.Cond.fieldLink own i (q.2.1 py.2.1).1 (q.2.1 py.2.1).2.1 (q.2.1 py.2.1).2.2.1)))) && decide (jkd (parseFieldDescriptor (q.2.1 py.2.1).2.2.1) = py.2.2.2.1.toNatClampNeg)
  | none => false
def jokS (own : String) (Ts : List Jvm.Cond) (tb : jTb) (i : Nat) (py : jP) : Bool := match tb py.1 with
  | some q => decide (Ts[py.2.2.1]? = some (Jvm.Cond.fieldLink own i q.1 q.2.1 q.2.2.1))
  | none => false
def jok1 (own : String) (Ts : List Jvm.Cond) (cl : List vw_C) (tb : jTb) (nL : Nat) (ini : Bool) (pc : Nat) (I : Instr) (ln : Nat) (py : jP) : Bool := match I with
  | .iconst i => decide (ln = 1) && decide (Int32.ofInt i = py.2.2.2.1)
  | .bipush i => decide (ln = 2) && decide ((Int8.ofInt i).toInt32 = py.2.2.2.1)
  | .sipush i => decide (ln = 3) && decide ((Int16.ofInt i).toInt32 = py.2.2.2.1)
  | .ldc i => decide (ln = 2) && decide (Ts[py.2.2.1]? = some (Jvm.Cond.constant own i py.2.2.2.1))
  | .lconst i => decide (ln = 1) && decide (Int64.ofNat (i : Nat) = py.2.2.2.2)
  | .ldc2_w i => decide (ln = 3) && decide (Ts[py.2.2.1]? = some (Jvm.Cond.constantLong own i py.2.2.2.2))
  | .iload_n i => decide (ln = 1) && decide (i.val = py.1)
  | .lload_n i => decide (ln = 1) && decide (i.val = py.1)
  | .aload_n i => decide (ln = 1) && decide (i.val = py.1)
  | .iload _ => decide (ln = 2)
  | .lload _ => decide (ln = 2)
  | .aload _ => decide (ln = 2)
  | .istore i => decide (ln = 2) && decide (i < nL)
  | .astore i => decide (ln = 2) && decide (i < nL)
  | .lstore i => decide (ln = 2) && decide (i + 1 < nL)
  | .istore_n i => decide (ln = 1) && decide (i.val < nL) && decide (i.val = py.1)
  | .astore_n i => decide (ln = 1) && decide (i.val < nL) && decide (i.val = py.1)
  | .lstore_n i => decide (ln = 1) && decide (i.val + 1 < nL) && decide (i.val = py.1)
  | .iinc i z => decide (ln = 3) && decide (i < nL) && decide (Int32.ofInt z = py.2.2.2.1)
  | .ifCond _ z => decide (ln = 3) && decide ((pc : Int) + z = (py.1 : Int))
  | .if_icmp _ z => decide (ln = 3) && decide ((pc : Int) + z = (py.1 : Int))
  | .ifnull z => decide (ln = 3) && decide ((pc : Int) + z = (py.1 : Int))
  | .ifnonnull z => decide (ln = 3) && decide ((pc : Int) + z = (py.1 : Int))
  | .goto z => decide (ln = 3) && decide ((pc : Int) + z = (py.1 : Int))
  | .getfield i => decide (ln = 3) && jokF own Ts cl i py
  | .putfield i => decide (ln = 3) && jokF own Ts cl i py && jokW own Ts cl ini i py
  | .getstatic i => decide (ln = 3) && jokS own Ts tb i py
  | .invokevirtual _ => true
  | .invokespecial _ => true
  | .invokestatic _ => true
  | .new _ => true
  | .newarray _ => true
  | .tableswitch _ _ _ _ => true
  | .lookupswitch _ _ => true
  | .ldc_w _ => true
  | .checkcast _ => true
  | .if_acmp _ _ => true
  | _ => decide (ln = 1)
def jok (own : String) (Ts : List Jvm.Cond) (cl : List vw_C) (tb : jTb) (nL : Nat) (ini : Bool) (cc : ByteArray) (pc : Nat) (x : jI) : Bool := decide (decode cc pc = .ok (x.1, x.2.1)) && jok1 own Ts cl tb nL ini pc x.1 x.2.1 x.2.2
def jokL (own : String) (Ts : List Jvm.Cond) (cl : List vw_C) (tb : jTb) (nL : Nat) (ini : Bool) (cc : ByteArray) : Nat → List jI → Bool
  | _, [] => true
  | pc, x :: r => jok own Ts cl tb nL ini cc pc x && jokL own Ts cl tb nL ini cc (pc + x.2.1) r
theorem jokL_app {own : String} {Ts : List Jvm.Cond} {cl : List vw_C} {tb : jTb} {nL : Nat} {ini : Bool} {cc : ByteArray} : ∀ (a b : List jI) (pc : Nat), jokL own Ts cl tb nL ini cc pc (a ++ b) = true → jokL own Ts cl tb nL ini cc pc a = true ∧ jokL own Ts cl tb nL ini cc (pc + (a.map (fun x => x.2.1)).sum) b = true
  | [], b, pc, h => ⟨rfl, by simpa using h⟩
  | x :: a, b, pc, h => by
    rw [List.cons_append] at h
    unfold jokL at h
    rw [Bool.and_eq_true] at h
    have h2 := jokL_app a b (pc + x.2.1) h.2
    refine ⟨?_, ?_⟩
    · unfold jokL
      rw [Bool.and_eq_true]
      exact ⟨h.1, h2.1⟩
    · rw [List.map_cons, List.sum_cons, ← Nat.add_assoc]
      exact h2.2
/-- a part of a checked row is checked -/
theorem jok_sub {own : String} {Ts : List Jvm.Cond} {cl : List vw_C} {tb : jTb} {nL : Nat} {ini : Bool} {cc : ByteArray} {pc : Nat} {is : List jI} (h : jokL own Ts cl tb nL ini cc pc is = true) (i j : Nat) {pc' : Nat} {mid : List jI} (hm : (is.drop i).take j = mid) (hp : pc + ((is.take i).map (fun x => x.2.1)).sum = pc') : jokL own Ts cl tb nL ini cc pc' mid = true := by
  subst hm; subst hp
  rw [← List.take_append_drop i is] at h
  have h2 := (jokL_app _ _ _ h).2
  rw [← List.take_append_drop j (is.drop i)] at h2
  exact (jokL_app _ _ _ h2).1
/-! the judgement -/
abbrev jM : Type := Program × Launch × Env × Room × State × MethodId × Array Value × List Frame × Method × Code
def jX (E : jE) (own : String) (Ts : List Jvm.Cond) (cl : List vw_C) (tb : jTb) (nL : Nat) (ini : Bool) (cc : ByteArray) (M : jM) : Prop :=
  M.1.tables.exec = Jvm.exec ∧ M.2.2.2.2.2.2.2.2.2.code = cc ∧ M.2.2.2.2.2.2.2.2.2.maxLocals = nL ∧ M.2.2.2.2.1.vm.findClass own = some M.2.2.2.2.2.1.cls ∧ (∀ w ∈ jTA Ts, w.before M.2.2.2.2.2.2.1 M.2.2.2.2.1 = true) ∧ jK E cl tb Ts M.2.2.2.2.1 ∧ M.2.2.2.2.2.2.2.2.1.locks = false ∧ (ini = true → M.2.2.2.2.2.2.2.2.1.name = "<init>")
def jJ (E : jE) (cl : List vw_C) (nL : Nat) (M : jM) (Q : State → Prop) (n cells slots : Nat) : jN := fun pc lv st σ => ∀ (H : Heap) (locs : List Loc) (ls : Array Slot), jW E cl σ n H → va_S (jA E) M.2.2.2.2.1.heap H locs → jlv E ls nL lv →
  W M.1 M.2.1 M.2.2.1 M.2.2.2.1 M.2.2.2.2.1 M.2.2.2.2.2.1 M.2.2.2.2.2.2.1 M.2.2.2.2.2.2.2.1 M.2.2.2.2.2.2.2.2.1 M.2.2.2.2.2.2.2.2.2 H locs cells slots Q (F0 M.2.2.2.2.2.1 pc ls (st.map (jc E)))
/-- what the class tables give, once for all methods -/
def jCl (Ts : List Jvm.Cond) (cl : List vw_C) : Prop := ∀ (ci : Nat) (q : vw_C), cl[ci]? = some q → (∀ w ∈ u_ws q.1 q.2.1 q.2.2, w ∈ jTA Ts) ∧ (∃ ty : Nat → FieldType, ∀ k, k < q.2.2 → parseFieldDescriptor (q.2.1 k).2.2.1 = some (ty k)) ∧ ∀ a, a < q.2.2 → ∀ b, b < q.2.2 → a ≠ b → (q.2.1 a).2.1 ≠ (q.2.1 b).2.1
theorem jc_cat (E : jE) (v : jv) : (jc E v).category = jcat v := by
  rcases v with x | x | _ | k | j <;> rfl
theorem jpr_mem {E : jE} : ∀ (lv : List (Option jv)) (i : Nat) (q : Nat × Value), q ∈ jpr E i lv → ∃ (j : Nat) (v : jv), lv[j]? = some (some v) ∧ q = (i + j, jc E v)
  | [], _, _, h => by cases h
  | none :: r, i, q, h => by
    obtain ⟨j, v, h1, h2⟩ := jpr_mem r (i + 1) q h
    exact ⟨j + 1, v, by simpa using h1, by rw [h2]; congr 1; omega⟩
  | some v :: r, i, q, h => by
    rcases List.mem_cons.mp h with h | h
    · exact ⟨0, v, rfl, h⟩
    · obtain ⟨j, v, h1, h2⟩ := jpr_mem r (i + 1) q h
      exact ⟨j + 1, v, by simpa using h1, by rw [h2]; congr 1; omega⟩
theorem jpr_in {E : jE} : ∀ (lv : List (Option jv)) (i j : Nat) (v : jv), lv[j]? = some (some v) → (i + j, jc E v) ∈ jpr E i lv
  | [], _, _, _, h => by simp at h
  | x :: r, i, 0, v, h => by
    have hx : x = some v := by simpa using h
    subst hx
    exact List.mem_cons_self
  | x :: r, i, j + 1, v, h => by
    have h1 := jpr_in (E := E) r (i + 1) j v (by simpa using h)
    rw [show i + 1 + j = i + (j + 1) by omega] at h1
    cases x with
    | none => exact h1
    | some y => exact List.mem_cons_of_mem _ h1
theorem jlv_has {E : jE} {ls : Array Slot} {nL : Nat} {lv : List (Option jv)} (h : jlv E ls nL lv) : lv_has ls nL (jpr E 0 lv) := by
  refine ⟨h.1, h.2.1, fun q hq => ?_⟩
  obtain ⟨j, v, h1, h2⟩ := jpr_mem lv 0 q hq
  rw [h2]
  show ls[0 + j]? = _
  rw [Nat.zero_add]
  exact h.2.2 j v h1
theorem jkill_at {lv : List (Option jv)} {i j : Nat} {v : jv} (h : (jkill lv i)[j]? = some (some v)) : lv[j]? = some (some v) ∧ ¬ (j + 1 = i ∧ jcat v = 2) := by
  cases i with
  | zero => exact ⟨h, fun q => by omega⟩
  | succ k =>
    dsimp only [jkill] at h
    split at h
    next x hx =>
      by_cases hjk : j = k
      · subst hjk
        rw [List.getElem?_set_self (by exact (List.getElem?_eq_some_iff.mp hx).1)] at h
        cases h
      · rw [List.getElem?_set_ne (fun q => hjk q.symm)] at h
        exact ⟨h, fun q => hjk (by omega)⟩
    next hx =>
      refine ⟨h, fun q => ?_⟩
      have hjk : j = k := by omega
      subst hjk
      rcases v with x | x | a
      · cases q.2
      · exact hx x h
      · cases q.2
theorem jlv_st1 {E : jE} {ls : Array Slot} {nL : Nat} {lv : List (Option jv)} (h : jlv E ls nL lv) {i : Nat} (hi : i < nL) {v : jv} (hc : jcat v = 1) : ∃ ls', storeLocals ls i (jc E v) = some ls' ∧ jlv E ls' nL (jset1 lv i v) := by
  obtain ⟨ls', h1, h2⟩ := lv_store1 (i := i) (v := jc E v) (jlv_has h) hi (by rw [jc_cat]; exact hc)
  refine ⟨ls', h1, h2.1, h2.2.1, fun j w hj => ?_⟩
  by_cases hji : j = i
  · subst hji
    unfold jset1 at hj
    have hl : j < (jkill lv j).length := by
      have := (List.getElem?_eq_some_iff.mp hj).1
      simpa using this
    rw [List.getElem?_set_self hl] at hj
    cases hj
    exact h2.2.2 (j, jc E v) List.mem_cons_self
  · unfold jset1 at hj
    rw [List.getElem?_set_ne (fun q => hji q.symm)] at hj
    obtain ⟨h3, h4⟩ := jkill_at hj
    refine h2.2.2 (j, jc E w) (List.mem_cons_of_mem _ (List.mem_filter.mpr ⟨?_, ?_⟩))
    · have := jpr_in (E := E) lv 0 j w h3
      rwa [Nat.zero_add] at this
    · simp only [jc_cat]
      simp [hji]
      omega
theorem jlv_st2 {E : jE} {ls : Array Slot} {nL : Nat} {lv : List (Option jv)} (h : jlv E ls nL lv) {i : Nat} (hi : i + 1 < nL) {v : jv} (hc : jcat v = 2) : ∃ ls', storeLocals ls i (jc E v) = some ls' ∧ jlv E ls' nL (jset2 lv i v) := by
  obtain ⟨ls', h1, h2⟩ := lv_store2 (i := i) (v := jc E v) (jlv_has h) hi (by rw [jc_cat]; exact hc)
  refine ⟨ls', h1, h2.1, h2.2.1, fun j w hj => ?_⟩
  unfold jset2 at hj
  by_cases hj1 : j = i + 1
  · subst hj1
    have hl : i + 1 < ((jkill lv i).set i (some v)).length := by
      have := (List.getElem?_eq_some_iff.mp hj).1
      simpa using this
    rw [List.getElem?_set_self hl] at hj
    cases hj
  rw [List.getElem?_set_ne (fun q => hj1 q.symm)] at hj
  by_cases hji : j = i
  · subst hji
    have hl : j < (jkill lv j).length := by
      have := (List.getElem?_eq_some_iff.mp hj).1
      simpa using this
    rw [List.getElem?_set_self hl] at hj
    cases hj
    exact h2.2.2 (j, jc E v) List.mem_cons_self
  · rw [List.getElem?_set_ne (fun q => hji q.symm)] at hj
    obtain ⟨h3, h4⟩ := jkill_at hj
    refine h2.2.2 (j, jc E w) (List.mem_cons_of_mem _ (List.mem_filter.mpr ⟨?_, ?_⟩))
    · have := jpr_in (E := E) lv 0 j w h3
      rwa [Nat.zero_add] at this
    · simp only [jc_cat]
      simp [hji, hj1]
      omega
theorem jW_set {E : jE} {cl : List vw_C} {σ : Nat → jcell} {n a : Nat} {x : jcell} {H H1 : Heap} (h : jW E cl σ n H) (z : H1.size = H.size) (oq : ∀ q : Nat, q ≠ E.2.2.2 + a → H1[q]? = H[q]?) (he : va_at E.1 cl (E.2.2.2 + a, je E x) H1) : jW E cl (jup σ a x) n H1 := by
  refine ⟨z.trans h.1, fun k hk => ?_⟩
  by_cases hka : k = a
  · subst hka
    rw [jup_s]
    exact he
  · rw [jup_n hka]
    exact (h.2 k hk).kept (oq _ (by show E.2.2.2 + k ≠ _; omega))
theorem jS_put {E : jE} {H0 H H1 : Heap} {locs : List Loc} {a k : Nat} (h : va_S (jA E) H0 H locs) (z : H1.size = H.size) (oq : ∀ q : Nat, q ≠ E.2.2.2 + a → H1[q]? = H[q]?) : va_S (jA E) H0 H1 (locs ++ [⟨E.2.2.2 + a, k⟩]) := h.put z oq (Nat.le_add_right _ _)
theorem jW_one {E : jE} {cl : List vw_C} {σ : Nat → jcell} {n a : Nat} {H : Heap} (h : jW E cl σ n H) (ha : a < n) : va_P E.1 cl [(E.2.2.2 + a, je E (σ a))] H := by
  intro k q hk
  cases k with
  | zero => cases hk; exact h.2 a ha
  | succ k => simp at hk
theorem jty_in {E : jE} {t : FieldType} (h : t ∈ jtys) : ∃ t0 : Nat, (jtyl E)[t0]? = some (E.2.1 t, t) := by
  obtain ⟨i, hi⟩ := List.getElem?_of_mem h
  exact ⟨i, by simp [jtyl, hi]⟩
theorem jfit_n {kd : Nat} {v : jv} {E : jE} {t : Option FieldType} (h : jfit kd v) (hk : jkd t = kd) : ∃ ty, t = some ty ∧ narrow ty (jc E v) = jc E v ∧ fits ty (jc E v) = true := by
  unfold jfit at h
  split at h
  · cases t with
    | none => cases hk
    | some ty => cases ty <;> first | (cases hk; done) | exact ⟨_, rfl, rfl, rfl⟩
  · cases t with
    | none => cases hk
    | some ty => cases ty <;> first | (cases hk; done) | (rcases h with h | h <;> subst h <;> exact ⟨_, rfl, rfl, rfl⟩)
  · cases t with
    | none => cases hk
    | some ty => cases ty <;> first | (cases hk; done) | exact ⟨_, rfl, rfl, rfl⟩
  · next a =>
    cases t with
    | none => cases hk
    | some ty => cases ty <;> first | (cases hk; done) | (rcases a with _ | k | k <;> exact ⟨_, rfl, rfl, rfl⟩)
  · exact h.elim

section JST
variable {E : jE} {own : String} {Ts : List Jvm.Cond} {cl : List vw_C} {tb : jTb} {nL : Nat} {ini : Bool} {cc : ByteArray} {M : jM} {Q : State → Prop} {n cells slots : Nat}

theorem jk_iadd (X : jX E own Ts cl tb nL ini cc M) {pc : Nat} (hd : decode cc pc = .ok (.iadd, 1)) {lv : List (Option jv)} {r : List jv} {σ : Nat → jcell} {x y : Int32} (k : jJ E cl nL M Q n cells slots (pc + 1) lv (.inl (x + y) :: r) σ) : jJ E cl nL M Q n cells slots pc lv (.inl y :: .inl x :: r) σ := by
  obtain ⟨hx, hb, -⟩ := X
  exact fun H locs ls hW hS hL => lv_iadd (x := x) (y := y) hx hb hd (k H locs ls hW hS hL)
theorem jk_isub (X : jX E own Ts cl tb nL ini cc M) {pc : Nat} (hd : decode cc pc = .ok (.isub, 1)) {lv : List (Option jv)} {r : List jv} {σ : Nat → jcell} {x y : Int32} (k : jJ E cl nL M Q n cells slots (pc + 1) lv (.inl (x - y) :: r) σ) : jJ E cl nL M Q n cells slots pc lv (.inl y :: .inl x :: r) σ := by
  obtain ⟨hx, hb, -⟩ := X
  exact fun H locs ls hW hS hL => lv_isub (x := x) (y := y) hx hb hd (k H locs ls hW hS hL)
theorem jk_imul (X : jX E own Ts cl tb nL ini cc M) {pc : Nat} (hd : decode cc pc = .ok (.imul, 1)) {lv : List (Option jv)} {r : List jv} {σ : Nat → jcell} {x y : Int32} (k : jJ E cl nL M Q n cells slots (pc + 1) lv (.inl (x * y) :: r) σ) : jJ E cl nL M Q n cells slots pc lv (.inl y :: .inl x :: r) σ := by
  obtain ⟨hx, hb, -⟩ := X
  exact fun H locs ls hW hS hL => lv_imul (x := x) (y := y) hx hb hd (k H locs ls hW hS hL)
theorem jk_iand (X : jX E own Ts cl tb nL ini cc M) {pc : Nat} (hd : decode cc pc = .ok (.iand, 1)) {lv : List (Option jv)} {r : List jv} {σ : Nat → jcell} {x y : Int32} (k : jJ E cl nL M Q n cells slots (pc + 1) lv (.inl (x &&& y) :: r) σ) : jJ E cl nL M Q n cells slots pc lv (.inl y :: .inl x :: r) σ := by
  obtain ⟨hx, hb, -⟩ := X
  exact fun H locs ls hW hS hL => lv_iand (x := x) (y := y) hx hb hd (k H locs ls hW hS hL)
theorem jk_ior (X : jX E own Ts cl tb nL ini cc M) {pc : Nat} (hd : decode cc pc = .ok (.ior, 1)) {lv : List (Option jv)} {r : List jv} {σ : Nat → jcell} {x y : Int32} (k : jJ E cl nL M Q n cells slots (pc + 1) lv (.inl (x ||| y) :: r) σ) : jJ E cl nL M Q n cells slots pc lv (.inl y :: .inl x :: r) σ := by
  obtain ⟨hx, hb, -⟩ := X
  exact fun H locs ls hW hS hL => lv_ior (x := x) (y := y) hx hb hd (k H locs ls hW hS hL)
theorem jk_ixor (X : jX E own Ts cl tb nL ini cc M) {pc : Nat} (hd : decode cc pc = .ok (.ixor, 1)) {lv : List (Option jv)} {r : List jv} {σ : Nat → jcell} {x y : Int32} (k : jJ E cl nL M Q n cells slots (pc + 1) lv (.inl (x ^^^ y) :: r) σ) : jJ E cl nL M Q n cells slots pc lv (.inl y :: .inl x :: r) σ := by
  obtain ⟨hx, hb, -⟩ := X
  exact fun H locs ls hW hS hL => lv_ixor (x := x) (y := y) hx hb hd (k H locs ls hW hS hL)
theorem jk_ishl (X : jX E own Ts cl tb nL ini cc M) {pc : Nat} (hd : decode cc pc = .ok (.ishl, 1)) {lv : List (Option jv)} {r : List jv} {σ : Nat → jcell} {x y : Int32} (k : jJ E cl nL M Q n cells slots (pc + 1) lv (.inl (x <<< (y &&& 31)) :: r) σ) : jJ E cl nL M Q n cells slots pc lv (.inl y :: .inl x :: r) σ := by
  obtain ⟨hx, hb, -⟩ := X
  exact fun H locs ls hW hS hL => lv_ishl (x := x) (y := y) hx hb hd (k H locs ls hW hS hL)
theorem jk_ishr (X : jX E own Ts cl tb nL ini cc M) {pc : Nat} (hd : decode cc pc = .ok (.ishr, 1)) {lv : List (Option jv)} {r : List jv} {σ : Nat → jcell} {x y : Int32} (k : jJ E cl nL M Q n cells slots (pc + 1) lv (.inl (x >>> (y &&& 31)) :: r) σ) : jJ E cl nL M Q n cells slots pc lv (.inl y :: .inl x :: r) σ := by
  obtain ⟨hx, hb, -⟩ := X
  exact fun H locs ls hW hS hL => lv_ishr (x := x) (y := y) hx hb hd (k H locs ls hW hS hL)
theorem jk_iushr (X : jX E own Ts cl tb nL ini cc M) {pc : Nat} (hd : decode cc pc = .ok (.iushr, 1)) {lv : List (Option jv)} {r : List jv} {σ : Nat → jcell} {x y : Int32} (k : jJ E cl nL M Q n cells slots (pc + 1) lv (.inl (x.toUInt32 >>> (y.toUInt32 &&& Int32.toUInt32 31)).toInt32 :: r) σ) : jJ E cl nL M Q n cells slots pc lv (.inl y :: .inl x :: r) σ := by
  obtain ⟨hx, hb, -⟩ := X
  exact fun H locs ls hW hS hL => lv_iushr (x := x) (y := y) hx hb hd rfl (k H locs ls hW hS hL)
theorem jk_idiv (X : jX E own Ts cl tb nL ini cc M) {pc : Nat} (hd : decode cc pc = .ok (.idiv, 1)) {lv : List (Option jv)} {r : List jv} {σ : Nat → jcell} {x y : Int32} (hne : ¬ y = 0) (k : jJ E cl nL M Q n cells slots (pc + 1) lv (.inl (x / y) :: r) σ) : jJ E cl nL M Q n cells slots pc lv (.inl y :: .inl x :: r) σ := by
  obtain ⟨hx, hb, -⟩ := X
  exact fun H locs ls hW hS hL => lv_idiv (x := x) (y := y) hx hb hd hne (k H locs ls hW hS hL)
theorem jk_irem (X : jX E own Ts cl tb nL ini cc M) {pc : Nat} (hd : decode cc pc = .ok (.irem, 1)) {lv : List (Option jv)} {r : List jv} {σ : Nat → jcell} {x y : Int32} (hne : ¬ y = 0) (k : jJ E cl nL M Q n cells slots (pc + 1) lv (.inl (x - x / y * y) :: r) σ) : jJ E cl nL M Q n cells slots pc lv (.inl y :: .inl x :: r) σ := by
  obtain ⟨hx, hb, -⟩ := X
  exact fun H locs ls hW hS hL => lv_irem (x := x) (y := y) hx hb hd hne (k H locs ls hW hS hL)
theorem jk_ineg (X : jX E own Ts cl tb nL ini cc M) {pc : Nat} (hd : decode cc pc = .ok (.ineg, 1)) {lv : List (Option jv)} {r : List jv} {σ : Nat → jcell} {x : Int32} (k : jJ E cl nL M Q n cells slots (pc + 1) lv (.inl (-x) :: r) σ) : jJ E cl nL M Q n cells slots pc lv (.inl x :: r) σ := by
  obtain ⟨hx, hb, -⟩ := X
  exact fun H locs ls hW hS hL => lv_ineg (x := x) hx hb hd (k H locs ls hW hS hL)
theorem jk_ladd (X : jX E own Ts cl tb nL ini cc M) {pc : Nat} (hd : decode cc pc = .ok (.ladd, 1)) {lv : List (Option jv)} {r : List jv} {σ : Nat → jcell} {x y : Int64} (k : jJ E cl nL M Q n cells slots (pc + 1) lv (.inr (.inl (x + y)) :: r) σ) : jJ E cl nL M Q n cells slots pc lv (.inr (.inl y) :: .inr (.inl x) :: r) σ := by
  obtain ⟨hx, hb, -⟩ := X
  exact fun H locs ls hW hS hL => lv_ladd (x := x) (y := y) hx hb hd (k H locs ls hW hS hL)
theorem jk_lsub (X : jX E own Ts cl tb nL ini cc M) {pc : Nat} (hd : decode cc pc = .ok (.lsub, 1)) {lv : List (Option jv)} {r : List jv} {σ : Nat → jcell} {x y : Int64} (k : jJ E cl nL M Q n cells slots (pc + 1) lv (.inr (.inl (x - y)) :: r) σ) : jJ E cl nL M Q n cells slots pc lv (.inr (.inl y) :: .inr (.inl x) :: r) σ := by
  obtain ⟨hx, hb, -⟩ := X
  exact fun H locs ls hW hS hL => lv_lsub (x := x) (y := y) hx hb hd (k H locs ls hW hS hL)
theorem jk_lmul (X : jX E own Ts cl tb nL ini cc M) {pc : Nat} (hd : decode cc pc = .ok (.lmul, 1)) {lv : List (Option jv)} {r : List jv} {σ : Nat → jcell} {x y : Int64} (k : jJ E cl nL M Q n cells slots (pc + 1) lv (.inr (.inl (x * y)) :: r) σ) : jJ E cl nL M Q n cells slots pc lv (.inr (.inl y) :: .inr (.inl x) :: r) σ := by
  obtain ⟨hx, hb, -⟩ := X
  exact fun H locs ls hW hS hL => lv_lmul (x := x) (y := y) hx hb hd (k H locs ls hW hS hL)
theorem jk_land (X : jX E own Ts cl tb nL ini cc M) {pc : Nat} (hd : decode cc pc = .ok (.land, 1)) {lv : List (Option jv)} {r : List jv} {σ : Nat → jcell} {x y : Int64} (k : jJ E cl nL M Q n cells slots (pc + 1) lv (.inr (.inl (x &&& y)) :: r) σ) : jJ E cl nL M Q n cells slots pc lv (.inr (.inl y) :: .inr (.inl x) :: r) σ := by
  obtain ⟨hx, hb, -⟩ := X
  exact fun H locs ls hW hS hL => lv_land (x := x) (y := y) hx hb hd (k H locs ls hW hS hL)
theorem jk_lor (X : jX E own Ts cl tb nL ini cc M) {pc : Nat} (hd : decode cc pc = .ok (.lor, 1)) {lv : List (Option jv)} {r : List jv} {σ : Nat → jcell} {x y : Int64} (k : jJ E cl nL M Q n cells slots (pc + 1) lv (.inr (.inl (x ||| y)) :: r) σ) : jJ E cl nL M Q n cells slots pc lv (.inr (.inl y) :: .inr (.inl x) :: r) σ := by
  obtain ⟨hx, hb, -⟩ := X
  exact fun H locs ls hW hS hL => lv_lor (x := x) (y := y) hx hb hd (k H locs ls hW hS hL)
theorem jk_lxor (X : jX E own Ts cl tb nL ini cc M) {pc : Nat} (hd : decode cc pc = .ok (.lxor, 1)) {lv : List (Option jv)} {r : List jv} {σ : Nat → jcell} {x y : Int64} (k : jJ E cl nL M Q n cells slots (pc + 1) lv (.inr (.inl (x ^^^ y)) :: r) σ) : jJ E cl nL M Q n cells slots pc lv (.inr (.inl y) :: .inr (.inl x) :: r) σ := by
  obtain ⟨hx, hb, -⟩ := X
  exact fun H locs ls hW hS hL => lv_lxor (x := x) (y := y) hx hb hd (k H locs ls hW hS hL)
theorem jk_ldiv (X : jX E own Ts cl tb nL ini cc M) {pc : Nat} (hd : decode cc pc = .ok (.ldiv, 1)) {lv : List (Option jv)} {r : List jv} {σ : Nat → jcell} {x y : Int64} (hne : ¬ y = 0) (k : jJ E cl nL M Q n cells slots (pc + 1) lv (.inr (.inl (x / y)) :: r) σ) : jJ E cl nL M Q n cells slots pc lv (.inr (.inl y) :: .inr (.inl x) :: r) σ := by
  obtain ⟨hx, hb, -⟩ := X
  exact fun H locs ls hW hS hL => lv_ldiv (x := x) (y := y) hx hb hd hne (k H locs ls hW hS hL)
theorem jk_lrem (X : jX E own Ts cl tb nL ini cc M) {pc : Nat} (hd : decode cc pc = .ok (.lrem, 1)) {lv : List (Option jv)} {r : List jv} {σ : Nat → jcell} {x y : Int64} (hne : ¬ y = 0) (k : jJ E cl nL M Q n cells slots (pc + 1) lv (.inr (.inl (x - x / y * y)) :: r) σ) : jJ E cl nL M Q n cells slots pc lv (.inr (.inl y) :: .inr (.inl x) :: r) σ := by
  obtain ⟨hx, hb, -⟩ := X
  exact fun H locs ls hW hS hL => lv_lrem (x := x) (y := y) hx hb hd hne (k H locs ls hW hS hL)
theorem jk_lneg (X : jX E own Ts cl tb nL ini cc M) {pc : Nat} (hd : decode cc pc = .ok (.lneg, 1)) {lv : List (Option jv)} {r : List jv} {σ : Nat → jcell} {x : Int64} (k : jJ E cl nL M Q n cells slots (pc + 1) lv (.inr (.inl (-x)) :: r) σ) : jJ E cl nL M Q n cells slots pc lv (.inr (.inl x) :: r) σ := by
  obtain ⟨hx, hb, -⟩ := X
  exact fun H locs ls hW hS hL => lv_lneg (x := x) hx hb hd (k H locs ls hW hS hL)
theorem jk_lshl (X : jX E own Ts cl tb nL ini cc M) {pc : Nat} (hd : decode cc pc = .ok (.lshl, 1)) {lv : List (Option jv)} {r : List jv} {σ : Nat → jcell} {x : Int64} {y : Int32} (k : jJ E cl nL M Q n cells slots (pc + 1) lv (.inr (.inl (x <<< (y.toInt64 &&& 63))) :: r) σ) : jJ E cl nL M Q n cells slots pc lv (.inl y :: .inr (.inl x) :: r) σ := by
  obtain ⟨hx, hb, -⟩ := X
  exact fun H locs ls hW hS hL => lv_lshl (x := x) (y := y) hx hb hd rfl (k H locs ls hW hS hL)
theorem jk_lshr (X : jX E own Ts cl tb nL ini cc M) {pc : Nat} (hd : decode cc pc = .ok (.lshr, 1)) {lv : List (Option jv)} {r : List jv} {σ : Nat → jcell} {x : Int64} {y : Int32} (k : jJ E cl nL M Q n cells slots (pc + 1) lv (.inr (.inl (x >>> (y.toInt64 &&& 63))) :: r) σ) : jJ E cl nL M Q n cells slots pc lv (.inl y :: .inr (.inl x) :: r) σ := by
  obtain ⟨hx, hb, -⟩ := X
  exact fun H locs ls hW hS hL => lv_lshr (x := x) (y := y) hx hb hd rfl (k H locs ls hW hS hL)
theorem jk_lushr (X : jX E own Ts cl tb nL ini cc M) {pc : Nat} (hd : decode cc pc = .ok (.lushr, 1)) {lv : List (Option jv)} {r : List jv} {σ : Nat → jcell} {x : Int64} {y : Int32} (k : jJ E cl nL M Q n cells slots (pc + 1) lv (.inr (.inl (x.toUInt64 >>> (y.toInt64.toUInt64 &&& Int64.toUInt64 63)).toInt64) :: r) σ) : jJ E cl nL M Q n cells slots pc lv (.inl y :: .inr (.inl x) :: r) σ := by
  obtain ⟨hx, hb, -⟩ := X
  exact fun H locs ls hW hS hL => lv_lushr (x := x) (y := y) hx hb hd rfl (k H locs ls hW hS hL)
theorem jk_lcmp (X : jX E own Ts cl tb nL ini cc M) {pc : Nat} (hd : decode cc pc = .ok (.lcmp, 1)) {lv : List (Option jv)} {r : List jv} {σ : Nat → jcell} {x y : Int64} (k : jJ E cl nL M Q n cells slots (pc + 1) lv (.inl (lg_cmp x y) :: r) σ) : jJ E cl nL M Q n cells slots pc lv (.inr (.inl y) :: .inr (.inl x) :: r) σ := by
  obtain ⟨hx, hb, -⟩ := X
  exact fun H locs ls hW hS hL => W.lcmp (x := x) (y := y) hx hb hd (k H locs ls hW hS hL)
theorem jk_i2l (X : jX E own Ts cl tb nL ini cc M) {pc : Nat} (hd : decode cc pc = .ok (.i2l, 1)) {lv : List (Option jv)} {r : List jv} {σ : Nat → jcell} {x : Int32} (k : jJ E cl nL M Q n cells slots (pc + 1) lv (.inr (.inl x.toInt64) :: r) σ) : jJ E cl nL M Q n cells slots pc lv (.inl x :: r) σ := by
  obtain ⟨hx, hb, -⟩ := X
  exact fun H locs ls hW hS hL => lv_i2l (x := x) hx hb hd rfl (k H locs ls hW hS hL)
theorem jk_l2i (X : jX E own Ts cl tb nL ini cc M) {pc : Nat} (hd : decode cc pc = .ok (.l2i, 1)) {lv : List (Option jv)} {r : List jv} {σ : Nat → jcell} {x : Int64} (k : jJ E cl nL M Q n cells slots (pc + 1) lv (.inl x.toInt32 :: r) σ) : jJ E cl nL M Q n cells slots pc lv (.inr (.inl x) :: r) σ := by
  obtain ⟨hx, hb, -⟩ := X
  exact fun H locs ls hW hS hL => lv_l2i (x := x) hx hb hd rfl (k H locs ls hW hS hL)
theorem jk_i2b (X : jX E own Ts cl tb nL ini cc M) {pc : Nat} (hd : decode cc pc = .ok (.i2b, 1)) {lv : List (Option jv)} {r : List jv} {σ : Nat → jcell} {x : Int32} (k : jJ E cl nL M Q n cells slots (pc + 1) lv (.inl x.toInt8.toInt32 :: r) σ) : jJ E cl nL M Q n cells slots pc lv (.inl x :: r) σ := by
  obtain ⟨hx, hb, -⟩ := X
  exact fun H locs ls hW hS hL => lv_i2b (x := x) hx hb hd rfl (k H locs ls hW hS hL)
theorem jk_i2c (X : jX E own Ts cl tb nL ini cc M) {pc : Nat} (hd : decode cc pc = .ok (.i2c, 1)) {lv : List (Option jv)} {r : List jv} {σ : Nat → jcell} {x : Int32} (k : jJ E cl nL M Q n cells slots (pc + 1) lv (.inl (x.toUInt32 % 65536).toInt32 :: r) σ) : jJ E cl nL M Q n cells slots pc lv (.inl x :: r) σ := by
  obtain ⟨hx, hb, -⟩ := X
  exact fun H locs ls hW hS hL => lv_i2c (x := x) hx hb hd rfl (k H locs ls hW hS hL)
theorem jk_anull (X : jX E own Ts cl tb nL ini cc M) {pc : Nat} (hd : decode cc pc = .ok (.aconst_null, 1)) {lv : List (Option jv)} {r : List jv} {σ : Nat → jcell} (k : jJ E cl nL M Q n cells slots (pc + 1) lv (.inr (.inr none) :: r) σ) : jJ E cl nL M Q n cells slots pc lv (r) σ := by
  obtain ⟨hx, hb, -⟩ := X
  exact fun H locs ls hW hS hL => lv_null hx hb hd (k H locs ls hW hS hL)
theorem jk_dup (X : jX E own Ts cl tb nL ini cc M) {pc : Nat} (hd : decode cc pc = .ok (.dup, 1)) {lv : List (Option jv)} {r : List jv} {σ : Nat → jcell} {v : jv} (hv : jcat v = 1) (k : jJ E cl nL M Q n cells slots (pc + 1) lv (v :: v :: r) σ) : jJ E cl nL M Q n cells slots pc lv (v :: r) σ := by
  obtain ⟨hx, hb, -⟩ := X
  exact fun H locs ls hW hS hL => lv_dup (va := jc E v) hx hb hd ((jc_cat E v).trans hv) (k H locs ls hW hS hL)
theorem jk_pop (X : jX E own Ts cl tb nL ini cc M) {pc : Nat} (hd : decode cc pc = .ok (.pop, 1)) {lv : List (Option jv)} {r : List jv} {σ : Nat → jcell} {v : jv} (hv : jcat v = 1) (k : jJ E cl nL M Q n cells slots (pc + 1) lv (r) σ) : jJ E cl nL M Q n cells slots pc lv (v :: r) σ := by
  obtain ⟨hx, hb, -⟩ := X
  exact fun H locs ls hW hS hL => lv_pop (va := jc E v) hx hb hd ((jc_cat E v).trans hv) (k H locs ls hW hS hL)
theorem jk_dup_x1 (X : jX E own Ts cl tb nL ini cc M) {pc : Nat} (hd : decode cc pc = .ok (.dup_x1, 1)) {lv : List (Option jv)} {r : List jv} {σ : Nat → jcell} {v w : jv} (hv : jcat v = 1) (hw : jcat w = 1) (k : jJ E cl nL M Q n cells slots (pc + 1) lv (v :: w :: v :: r) σ) : jJ E cl nL M Q n cells slots pc lv (v :: w :: r) σ := by
  obtain ⟨hx, hb, -⟩ := X
  exact fun H locs ls hW hS hL => lv_dup_x1 (va := jc E v) (vb := jc E w) hx hb hd ((jc_cat E v).trans hv) ((jc_cat E w).trans hw) (k H locs ls hW hS hL)
theorem jk_dup_x2 (X : jX E own Ts cl tb nL ini cc M) {pc : Nat} (hd : decode cc pc = .ok (.dup_x2, 1)) {lv : List (Option jv)} {r : List jv} {σ : Nat → jcell} {v w z : jv} (hv : jcat v = 1) (hw : jcat w = 1) (hz : jcat z = 1) (k : jJ E cl nL M Q n cells slots (pc + 1) lv (v :: w :: z :: v :: r) σ) : jJ E cl nL M Q n cells slots pc lv (v :: w :: z :: r) σ := by
  obtain ⟨hx, hb, -⟩ := X
  exact fun H locs ls hW hS hL => lv_dup_x2 (va := jc E v) (vb := jc E w) (vd := jc E z) hx hb hd ((jc_cat E v).trans hv) ((jc_cat E w).trans hw) ((jc_cat E z).trans hz) (k H locs ls hW hS hL)
theorem jk_dup2_11 (X : jX E own Ts cl tb nL ini cc M) {pc : Nat} (hd : decode cc pc = .ok (.dup2, 1)) {lv : List (Option jv)} {r : List jv} {σ : Nat → jcell} {v w : jv} (hv : jcat v = 1) (hw : jcat w = 1) (k : jJ E cl nL M Q n cells slots (pc + 1) lv (v :: w :: v :: w :: r) σ) : jJ E cl nL M Q n cells slots pc lv (v :: w :: r) σ := by
  obtain ⟨hx, hb, -⟩ := X
  exact fun H locs ls hW hS hL => lv_dup2_11 (va := jc E v) (vb := jc E w) hx hb hd ((jc_cat E v).trans hv) ((jc_cat E w).trans hw) (k H locs ls hW hS hL)
theorem jk_dup2_2 (X : jX E own Ts cl tb nL ini cc M) {pc : Nat} (hd : decode cc pc = .ok (.dup2, 1)) {lv : List (Option jv)} {r : List jv} {σ : Nat → jcell} {x : Int64} (k : jJ E cl nL M Q n cells slots (pc + 1) lv (.inr (.inl x) :: .inr (.inl x) :: r) σ) : jJ E cl nL M Q n cells slots pc lv (.inr (.inl x) :: r) σ := by
  obtain ⟨hx, hb, -⟩ := X
  exact fun H locs ls hW hS hL => lv_dup2_2 (va := .long x) hx hb hd rfl (k H locs ls hW hS hL)
theorem jk_iconst (X : jX E own Ts cl tb nL ini cc M) {pc : Nat} {i : Int} {v : Int32} (hd : decode cc pc = .ok (.iconst i, 1)) (hv : Int32.ofInt i = v) {lv : List (Option jv)} {r : List jv} {σ : Nat → jcell} (k : jJ E cl nL M Q n cells slots (pc + 1) lv (.inl v :: r) σ) : jJ E cl nL M Q n cells slots pc lv r σ := by
  obtain ⟨hx, hb, -⟩ := X
  exact fun H locs ls hW hS hL => lv_iconst hx hb hd hv (k H locs ls hW hS hL)
theorem jk_bipush (X : jX E own Ts cl tb nL ini cc M) {pc : Nat} {i : Int} {v : Int32} (hd : decode cc pc = .ok (.bipush i, 2)) (hv : (Int8.ofInt i).toInt32 = v) {lv : List (Option jv)} {r : List jv} {σ : Nat → jcell} (k : jJ E cl nL M Q n cells slots (pc + 2) lv (.inl v :: r) σ) : jJ E cl nL M Q n cells slots pc lv r σ := by
  obtain ⟨hx, hb, -⟩ := X
  exact fun H locs ls hW hS hL => lv_bipush hx hb hd hv (k H locs ls hW hS hL)
theorem jk_sipush (X : jX E own Ts cl tb nL ini cc M) {pc : Nat} {i : Int} {v : Int32} (hd : decode cc pc = .ok (.sipush i, 3)) (hv : (Int16.ofInt i).toInt32 = v) {lv : List (Option jv)} {r : List jv} {σ : Nat → jcell} (k : jJ E cl nL M Q n cells slots (pc + 3) lv (.inl v :: r) σ) : jJ E cl nL M Q n cells slots pc lv r σ := by
  obtain ⟨hx, hb, -⟩ := X
  exact fun H locs ls hW hS hL => lv_sipush hx hb hd hv (k H locs ls hW hS hL)
theorem jk_lconst (X : jX E own Ts cl tb nL ini cc M) {pc : Nat} {i : Fin 2} {v : Int64} (hd : decode cc pc = .ok (.lconst i, 1)) (hv : Int64.ofNat (i : Nat) = v) {lv : List (Option jv)} {r : List jv} {σ : Nat → jcell} (k : jJ E cl nL M Q n cells slots (pc + 1) lv (.inr (.inl v) :: r) σ) : jJ E cl nL M Q n cells slots pc lv r σ := by
  obtain ⟨hx, hb, -⟩ := X
  exact fun H locs ls hW hS hL => lv_lconst hx hb hd hv (k H locs ls hW hS hL)
theorem jk_ldc (X : jX E own Ts cl tb nL ini cc M) {pc i wi : Nat} {v : Int32} (hd : decode cc pc = .ok (.ldc i, 2)) (hw : Ts[wi]? = some (Jvm.Cond.constant own i v)) {lv : List (Option jv)} {r : List jv} {σ : Nat → jcell} (k : jJ E cl nL M Q n cells slots (pc + 2) lv (.inl v :: r) σ) : jJ E cl nL M Q n cells slots pc lv r σ := by
  obtain ⟨hx, hb, -, ho, hts, -⟩ := X
  exact fun H locs ls hW hS hL => lv_ldc hx hb ho (hts _ (jTA_in hw rfl)) hd (k H locs ls hW hS hL)
theorem jk_ldc2 (X : jX E own Ts cl tb nL ini cc M) {pc i wi : Nat} {v : Int64} (hd : decode cc pc = .ok (.ldc2_w i, 3)) (hw : Ts[wi]? = some (Jvm.Cond.constantLong own i v)) {lv : List (Option jv)} {r : List jv} {σ : Nat → jcell} (k : jJ E cl nL M Q n cells slots (pc + 3) lv (.inr (.inl v) :: r) σ) : jJ E cl nL M Q n cells slots pc lv r σ := by
  obtain ⟨hx, hb, -, ho, hts, -⟩ := X
  exact fun H locs ls hW hS hL => lv_ldc2 hx hb ho (hts _ (jTA_in hw rfl)) hd (k H locs ls hW hS hL)
theorem jk_iload_n (X : jX E own Ts cl tb nL ini cc M) {pc : Nat} {i : Fin 4} (hd : decode cc pc = .ok (.iload_n i, 1)) {lv : List (Option jv)} {r : List jv} {σ : Nat → jcell} {x : Int32} (hl : lv[i.val]? = some (some (.inl x))) (k : jJ E cl nL M Q n cells slots (pc + 1) lv (.inl x :: r) σ) : jJ E cl nL M Q n cells slots pc lv r σ := by
  obtain ⟨hx, hb, -⟩ := X
  exact fun H locs ls hW hS hL => lv_iload_n hx hb hd rfl (hL.2.2 _ _ hl) (k H locs ls hW hS hL)
theorem jk_iload (X : jX E own Ts cl tb nL ini cc M) {pc i : Nat} (hd : decode cc pc = .ok (.iload i, 2)) {lv : List (Option jv)} {r : List jv} {σ : Nat → jcell} {x : Int32} (hl : lv[i]? = some (some (.inl x))) (k : jJ E cl nL M Q n cells slots (pc + 2) lv (.inl x :: r) σ) : jJ E cl nL M Q n cells slots pc lv r σ := by
  obtain ⟨hx, hb, -⟩ := X
  exact fun H locs ls hW hS hL => lv_iload hx hb hd (hL.2.2 _ _ hl) (k H locs ls hW hS hL)
theorem jk_lload_n (X : jX E own Ts cl tb nL ini cc M) {pc : Nat} {i : Fin 4} (hd : decode cc pc = .ok (.lload_n i, 1)) {lv : List (Option jv)} {r : List jv} {σ : Nat → jcell} {x : Int64} (hl : lv[i.val]? = some (some (.inr (.inl x)))) (k : jJ E cl nL M Q n cells slots (pc + 1) lv (.inr (.inl x) :: r) σ) : jJ E cl nL M Q n cells slots pc lv r σ := by
  obtain ⟨hx, hb, -⟩ := X
  exact fun H locs ls hW hS hL => lv_lload_n hx hb hd rfl (hL.2.2 _ _ hl) (k H locs ls hW hS hL)
theorem jk_lload (X : jX E own Ts cl tb nL ini cc M) {pc i : Nat} (hd : decode cc pc = .ok (.lload i, 2)) {lv : List (Option jv)} {r : List jv} {σ : Nat → jcell} {x : Int64} (hl : lv[i]? = some (some (.inr (.inl x)))) (k : jJ E cl nL M Q n cells slots (pc + 2) lv (.inr (.inl x) :: r) σ) : jJ E cl nL M Q n cells slots pc lv r σ := by
  obtain ⟨hx, hb, -⟩ := X
  exact fun H locs ls hW hS hL => lv_lload hx hb hd (hL.2.2 _ _ hl) (k H locs ls hW hS hL)
theorem jk_aload_n (X : jX E own Ts cl tb nL ini cc M) {pc : Nat} {i : Fin 4} (hd : decode cc pc = .ok (.aload_n i, 1)) {lv : List (Option jv)} {r : List jv} {σ : Nat → jcell} {x : Option (Nat ⊕ Nat)} (hl : lv[i.val]? = some (some (.inr (.inr x)))) (k : jJ E cl nL M Q n cells slots (pc + 1) lv (.inr (.inr x) :: r) σ) : jJ E cl nL M Q n cells slots pc lv r σ := by
  obtain ⟨hx, hb, -⟩ := X
  rcases x with _ | a | a
  · exact fun H locs ls hW hS hL => lv_aload_nN hx hb hd rfl (hL.2.2 _ _ hl) (k H locs ls hW hS hL)
  · exact fun H locs ls hW hS hL => lv_aload_n hx hb hd rfl (hL.2.2 _ _ hl) (k H locs ls hW hS hL)
  · exact fun H locs ls hW hS hL => lv_aload_n hx hb hd rfl (hL.2.2 _ _ hl) (k H locs ls hW hS hL)
theorem jk_aload (X : jX E own Ts cl tb nL ini cc M) {pc i : Nat} (hd : decode cc pc = .ok (.aload i, 2)) {lv : List (Option jv)} {r : List jv} {σ : Nat → jcell} {x : Option (Nat ⊕ Nat)} (hl : lv[i]? = some (some (.inr (.inr x)))) (k : jJ E cl nL M Q n cells slots (pc + 2) lv (.inr (.inr x) :: r) σ) : jJ E cl nL M Q n cells slots pc lv r σ := by
  obtain ⟨hx, hb, -⟩ := X
  rcases x with _ | a | a
  · exact fun H locs ls hW hS hL => lv_aloadN hx hb hd (hL.2.2 _ _ hl) (k H locs ls hW hS hL)
  · exact fun H locs ls hW hS hL => lv_aload hx hb hd (hL.2.2 _ _ hl) (k H locs ls hW hS hL)
  · exact fun H locs ls hW hS hL => lv_aload hx hb hd (hL.2.2 _ _ hl) (k H locs ls hW hS hL)
theorem jk_istore_n (X : jX E own Ts cl tb nL ini cc M) {pc : Nat} {i : Fin 4} (hd : decode cc pc = .ok (.istore_n i, 1)) (hi : i.val < nL) {lv : List (Option jv)} {r : List jv} {σ : Nat → jcell} {x : Int32} (k : jJ E cl nL M Q n cells slots (pc + 1) (jset1 lv i.val (.inl x)) r σ) : jJ E cl nL M Q n cells slots pc lv (.inl x :: r) σ := by
  obtain ⟨hx, hb, -⟩ := X
  (intro H locs ls hW hS hL
   obtain ⟨ls', e', h'⟩ := jlv_st1 hL hi (v := .inl x) rfl
   intro T hT X
   obtain ⟨t, a1, b1⟩ := k H locs ls' hW hS h' T hT X
   refine ⟨t, ?_, b1⟩
   (simp only [jc] at e'
    jvm_step X.here [X.here.top, ↓top_set X.here.top, hx, hb, hd, e', List.map_cons, jc]
    exact a1))
theorem jk_istore (X : jX E own Ts cl tb nL ini cc M) {pc : Nat} {i : Nat} (hd : decode cc pc = .ok (.istore i, 2)) (hi : i < nL) {lv : List (Option jv)} {r : List jv} {σ : Nat → jcell} {x : Int32} (k : jJ E cl nL M Q n cells slots (pc + 2) (jset1 lv i (.inl x)) r σ) : jJ E cl nL M Q n cells slots pc lv (.inl x :: r) σ := by
  obtain ⟨hx, hb, -⟩ := X
  (intro H locs ls hW hS hL
   obtain ⟨ls', e', h'⟩ := jlv_st1 hL hi (v := .inl x) rfl
   intro T hT X
   obtain ⟨t, a1, b1⟩ := k H locs ls' hW hS h' T hT X
   refine ⟨t, ?_, b1⟩
   (simp only [jc] at e'
    jvm_step X.here [X.here.top, ↓top_set X.here.top, hx, hb, hd, e', List.map_cons, jc]
    exact a1))
theorem jk_lstore_n (X : jX E own Ts cl tb nL ini cc M) {pc : Nat} {i : Fin 4} (hd : decode cc pc = .ok (.lstore_n i, 1)) (hi : i.val + 1 < nL) {lv : List (Option jv)} {r : List jv} {σ : Nat → jcell} {x : Int64} (k : jJ E cl nL M Q n cells slots (pc + 1) (jset2 lv i.val (.inr (.inl x))) r σ) : jJ E cl nL M Q n cells slots pc lv (.inr (.inl x) :: r) σ := by
  obtain ⟨hx, hb, -⟩ := X
  (intro H locs ls hW hS hL
   obtain ⟨ls', e', h'⟩ := jlv_st2 hL hi (v := .inr (.inl x)) rfl
   intro T hT X
   obtain ⟨t, a1, b1⟩ := k H locs ls' hW hS h' T hT X
   refine ⟨t, ?_, b1⟩
   (simp only [jc] at e'
    jvm_step X.here [X.here.top, ↓top_set X.here.top, hx, hb, hd, e', List.map_cons, jc]
    exact a1))
theorem jk_lstore (X : jX E own Ts cl tb nL ini cc M) {pc : Nat} {i : Nat} (hd : decode cc pc = .ok (.lstore i, 2)) (hi : i + 1 < nL) {lv : List (Option jv)} {r : List jv} {σ : Nat → jcell} {x : Int64} (k : jJ E cl nL M Q n cells slots (pc + 2) (jset2 lv i (.inr (.inl x))) r σ) : jJ E cl nL M Q n cells slots pc lv (.inr (.inl x) :: r) σ := by
  obtain ⟨hx, hb, -⟩ := X
  (intro H locs ls hW hS hL
   obtain ⟨ls', e', h'⟩ := jlv_st2 hL hi (v := .inr (.inl x)) rfl
   intro T hT X
   obtain ⟨t, a1, b1⟩ := k H locs ls' hW hS h' T hT X
   refine ⟨t, ?_, b1⟩
   (simp only [jc] at e'
    jvm_step X.here [X.here.top, ↓top_set X.here.top, hx, hb, hd, e', List.map_cons, jc]
    exact a1))
theorem jk_astore_n (X : jX E own Ts cl tb nL ini cc M) {pc : Nat} {i : Fin 4} (hd : decode cc pc = .ok (.astore_n i, 1)) (hi : i.val < nL) {lv : List (Option jv)} {r : List jv} {σ : Nat → jcell} {x : Option (Nat ⊕ Nat)} (k : jJ E cl nL M Q n cells slots (pc + 1) (jset1 lv i.val (.inr (.inr x))) r σ) : jJ E cl nL M Q n cells slots pc lv (.inr (.inr x) :: r) σ := by
  obtain ⟨hx, hb, -⟩ := X
  (intro H locs ls hW hS hL
   obtain ⟨ls', e', h'⟩ := jlv_st1 hL hi (v := .inr (.inr x)) rfl
   intro T hT X
   obtain ⟨t, a1, b1⟩ := k H locs ls' hW hS h' T hT X
   refine ⟨t, ?_, b1⟩
   rcases x with _ | a | a <;>
   (simp only [jc] at e'
    jvm_step X.here [X.here.top, ↓top_set X.here.top, hx, hb, hd, e', Value.isRef, List.map_cons, jc]
    exact a1))
theorem jk_astore (X : jX E own Ts cl tb nL ini cc M) {pc : Nat} {i : Nat} (hd : decode cc pc = .ok (.astore i, 2)) (hi : i < nL) {lv : List (Option jv)} {r : List jv} {σ : Nat → jcell} {x : Option (Nat ⊕ Nat)} (k : jJ E cl nL M Q n cells slots (pc + 2) (jset1 lv i (.inr (.inr x))) r σ) : jJ E cl nL M Q n cells slots pc lv (.inr (.inr x) :: r) σ := by
  obtain ⟨hx, hb, -⟩ := X
  (intro H locs ls hW hS hL
   obtain ⟨ls', e', h'⟩ := jlv_st1 hL hi (v := .inr (.inr x)) rfl
   intro T hT X
   obtain ⟨t, a1, b1⟩ := k H locs ls' hW hS h' T hT X
   refine ⟨t, ?_, b1⟩
   rcases x with _ | a | a <;>
   (simp only [jc] at e'
    jvm_step X.here [X.here.top, ↓top_set X.here.top, hx, hb, hd, e', Value.isRef, List.map_cons, jc]
    exact a1))
theorem jk_iinc (X : jX E own Ts cl tb nL ini cc M) {pc i : Nat} {z : Int} {v : Int32} (hd : decode cc pc = .ok (.iinc i z, 3)) (hi : i < nL) (hv : Int32.ofInt z = v) {lv : List (Option jv)} {r : List jv} {σ : Nat → jcell} {x : Int32} (hl : lv[i]? = some (some (.inl x))) (k : jJ E cl nL M Q n cells slots (pc + 3) (jset1 lv i (.inl (x + v))) r σ) : jJ E cl nL M Q n cells slots pc lv r σ := by
  obtain ⟨hx, hb, -⟩ := X
  subst hv
  intro H locs ls hW hS hL
  have hg := hL.2.2 _ _ hl
  obtain ⟨ls', e', h'⟩ := jlv_st1 hL hi (v := .inl (x + Int32.ofInt z)) rfl
  intro T hT X
  obtain ⟨t, a1, b1⟩ := k H locs ls' hW hS h' T hT X
  refine ⟨t, ?_, b1⟩
  simp only [jc] at e' hg
  jvm_step X.here [X.here.top, ↓top_set X.here.top, hx, hb, hd, hg, e']
  exact a1
theorem jk_if (X : jX E own Ts cl tb nL ini cc M) {pc tg : Nat} {cd : Jvm.ClassFile.Cond} {z : Int} (hd : decode cc pc = .ok (.ifCond cd z, 3)) (ht : (pc : Int) + z = (tg : Int)) {lv : List (Option jv)} {r : List jv} {σ : Nat → jcell} {x : Int32} {A B : Prop} (h : jbr cd x 0 A B) (ka : A → jJ E cl nL M Q n cells slots tg lv r σ) (kb : B → jJ E cl nL M Q n cells slots (pc + 3) lv r σ) : jJ E cl nL M Q n cells slots pc lv (.inl x :: r) σ := by
  obtain ⟨hx, hb, -⟩ := X
  intro H locs ls hW hS hL
  cases cd
  · exact lv_if_eq hx hb hd ht (fun q => ka (h.1 q) H locs ls hW hS hL) (fun q => kb (h.2 q) H locs ls hW hS hL)
  · exact lv_if_ne hx hb hd ht (fun q => ka (h.1 q) H locs ls hW hS hL) (fun q => kb (h.2 q) H locs ls hW hS hL)
  · exact lv_if_lt hx hb hd ht (fun q => ka (h.1 q) H locs ls hW hS hL) (fun q => kb (h.2 q) H locs ls hW hS hL)
  · exact lv_if_ge hx hb hd ht (fun q => ka (h.1 q) H locs ls hW hS hL) (fun q => kb (h.2 q) H locs ls hW hS hL)
  · exact lv_if_gt hx hb hd ht (fun q => ka (h.1 q) H locs ls hW hS hL) (fun q => kb (h.2 q) H locs ls hW hS hL)
  · exact lv_if_le hx hb hd ht (fun q => ka (h.1 q) H locs ls hW hS hL) (fun q => kb (h.2 q) H locs ls hW hS hL)
theorem jk_icmp (X : jX E own Ts cl tb nL ini cc M) {pc tg : Nat} {cd : Jvm.ClassFile.Cond} {z : Int} (hd : decode cc pc = .ok (.if_icmp cd z, 3)) (ht : (pc : Int) + z = (tg : Int)) {lv : List (Option jv)} {r : List jv} {σ : Nat → jcell} {x y : Int32} {A B : Prop} (h : jbr cd x y A B) (ka : A → jJ E cl nL M Q n cells slots tg lv r σ) (kb : B → jJ E cl nL M Q n cells slots (pc + 3) lv r σ) : jJ E cl nL M Q n cells slots pc lv (.inl y :: .inl x :: r) σ := by
  obtain ⟨hx, hb, -⟩ := X
  intro H locs ls hW hS hL
  cases cd
  · exact lv_icmp_eq hx hb hd ht (fun q => ka (h.1 q) H locs ls hW hS hL) (fun q => kb (h.2 q) H locs ls hW hS hL)
  · exact lv_icmp_ne hx hb hd ht (fun q => ka (h.1 q) H locs ls hW hS hL) (fun q => kb (h.2 q) H locs ls hW hS hL)
  · exact lv_icmp_lt hx hb hd ht (fun q => ka (h.1 q) H locs ls hW hS hL) (fun q => kb (h.2 q) H locs ls hW hS hL)
  · exact lv_icmp_ge hx hb hd ht (fun q => ka (h.1 q) H locs ls hW hS hL) (fun q => kb (h.2 q) H locs ls hW hS hL)
  · exact lv_icmp_gt hx hb hd ht (fun q => ka (h.1 q) H locs ls hW hS hL) (fun q => kb (h.2 q) H locs ls hW hS hL)
  · exact lv_icmp_le hx hb hd ht (fun q => ka (h.1 q) H locs ls hW hS hL) (fun q => kb (h.2 q) H locs ls hW hS hL)
theorem jk_goto (X : jX E own Ts cl tb nL ini cc M) {pc tg : Nat} {z : Int} (hd : decode cc pc = .ok (.goto z, 3)) (ht : (pc : Int) + z = (tg : Int)) {lv : List (Option jv)} {r : List jv} {σ : Nat → jcell} (k : jJ E cl nL M Q n cells slots tg lv r σ) : jJ E cl nL M Q n cells slots pc lv r σ := by
  obtain ⟨hx, hb, -⟩ := X
  exact fun H locs ls hW hS hL => lv_goto hx hb hd ht (k H locs ls hW hS hL)
theorem jk_ifnull (X : jX E own Ts cl tb nL ini cc M) {pc tg : Nat} {z : Int} (hd : decode cc pc = .ok (.ifnull z, 3)) (ht : (pc : Int) + z = (tg : Int)) {lv : List (Option jv)} {r : List jv} {σ : Nat → jcell} {x : Option (Nat ⊕ Nat)} (ka : x = none → jJ E cl nL M Q n cells slots tg lv r σ) (kb : ¬ x = none → jJ E cl nL M Q n cells slots (pc + 3) lv r σ) : jJ E cl nL M Q n cells slots pc lv (.inr (.inr x) :: r) σ := by
  obtain ⟨hx, hb, -⟩ := X
  intro H locs ls hW hS hL
  rcases x with _ | a | a
  · exact lv_ifnullN hx hb hd ht (ka rfl H locs ls hW hS hL)
  · exact lv_ifnull hx hb hd (kb (fun q => by cases q) H locs ls hW hS hL)
  · exact lv_ifnull hx hb hd (kb (fun q => by cases q) H locs ls hW hS hL)
theorem jk_ifnonnull (X : jX E own Ts cl tb nL ini cc M) {pc tg : Nat} {z : Int} (hd : decode cc pc = .ok (.ifnonnull z, 3)) (ht : (pc : Int) + z = (tg : Int)) {lv : List (Option jv)} {r : List jv} {σ : Nat → jcell} {x : Option (Nat ⊕ Nat)} (ka : ¬ x = none → jJ E cl nL M Q n cells slots tg lv r σ) (kb : x = none → jJ E cl nL M Q n cells slots (pc + 3) lv r σ) : jJ E cl nL M Q n cells slots pc lv (.inr (.inr x) :: r) σ := by
  obtain ⟨hx, hb, -⟩ := X
  intro H locs ls hW hS hL
  rcases x with _ | a | a
  · exact lv_ifnonnullN hx hb hd (kb rfl H locs ls hW hS hL)
  · exact lv_ifnonnull hx hb hd ht (ka (fun q => by cases q) H locs ls hW hS hL)
  · exact lv_ifnonnull hx hb hd ht (ka (fun q => by cases q) H locs ls hW hS hL)
theorem jk_iald (X : jX E own Ts cl tb nL ini cc M) {pc : Nat} (hd : decode cc pc = .ok (.iaload, 1)) {lv : List (Option jv)} {r : List jv} {σ : Nat → jcell} {i : Int32} {a len : Nat} {g : Nat → Int32} (ha : a < n) (he : σ a = .inl (.int, len, .inl g)) (hin : vp_in i len) (k : jJ E cl nL M Q n cells slots (pc + 1) lv (.inl (g i.toNatClampNeg) :: r) σ) : jJ E cl nL M Q n cells slots pc lv (.inl i :: .inr (.inr (some (.inl a))) :: r) σ := by
  obtain ⟨hx, hb, -, -, -, ⟨hK, -⟩, -⟩ := X
  intro H locs ls hW hS hL
  have hP := jW_one hW ha
  rw [he] at hP
  obtain ⟨t0, ht0⟩ := jty_in (E := E) (t := .int) (by decide)
  exact va_iald hx hb hK hP 0 t0 rfl ht0 hin hd (k H locs ls hW hS hL)
theorem jk_ialdT (X : jX E own Ts cl tb nL ini cc M) {pc : Nat} (hd : decode cc pc = .ok (.iaload, 1)) {lv : List (Option jv)} {r : List jv} {σ : Nat → jcell} {i : Int32} {j len : Nat} {g : Nat → Int32} {s1 s2 s3 : String} (he : tb j = some (s1, s2, s3, .int, len, g)) (hin : vp_in i len) (k : jJ E cl nL M Q n cells slots (pc + 1) lv (.inl (g i.toNatClampNeg) :: r) σ) : jJ E cl nL M Q n cells slots pc lv (.inl i :: .inr (.inr (some (.inr j))) :: r) σ := by
  obtain ⟨hx, hb, -, -, -, ⟨-, hT, -⟩, -⟩ := X
  exact fun H locs ls hW hS hL => va_ti hx hb (hT j _ he).2 hS hin rfl hd (k H locs ls hW hS hL)
theorem jk_bald (X : jX E own Ts cl tb nL ini cc M) {pc : Nat} (hd : decode cc pc = .ok (.baload, 1)) {lv : List (Option jv)} {r : List jv} {σ : Nat → jcell} {i : Int32} {a len : Nat} {g : Nat → Int32} (ha : a < n) (he : σ a = .inl (.byte, len, .inl g)) (hin : vp_in i len) (k : jJ E cl nL M Q n cells slots (pc + 1) lv (.inl (g i.toNatClampNeg) :: r) σ) : jJ E cl nL M Q n cells slots pc lv (.inl i :: .inr (.inr (some (.inl a))) :: r) σ := by
  obtain ⟨hx, hb, -, -, -, ⟨hK, -⟩, -⟩ := X
  intro H locs ls hW hS hL
  have hP := jW_one hW ha
  rw [he] at hP
  obtain ⟨t0, ht0⟩ := jty_in (E := E) (t := .byte) (by decide)
  exact va_bald hx hb hK hP 0 t0 rfl ht0 hin hd (k H locs ls hW hS hL)
theorem jk_baldT (X : jX E own Ts cl tb nL ini cc M) {pc : Nat} (hd : decode cc pc = .ok (.baload, 1)) {lv : List (Option jv)} {r : List jv} {σ : Nat → jcell} {i : Int32} {j len : Nat} {g : Nat → Int32} {s1 s2 s3 : String} (he : tb j = some (s1, s2, s3, .byte, len, g)) (hin : vp_in i len) (k : jJ E cl nL M Q n cells slots (pc + 1) lv (.inl (g i.toNatClampNeg) :: r) σ) : jJ E cl nL M Q n cells slots pc lv (.inl i :: .inr (.inr (some (.inr j))) :: r) σ := by
  obtain ⟨hx, hb, -, -, -, ⟨-, hT, -⟩, -⟩ := X
  exact fun H locs ls hW hS hL => va_tb hx hb (hT j _ he).2 hS hin rfl hd (k H locs ls hW hS hL)
theorem jk_zald (X : jX E own Ts cl tb nL ini cc M) {pc : Nat} (hd : decode cc pc = .ok (.baload, 1)) {lv : List (Option jv)} {r : List jv} {σ : Nat → jcell} {i : Int32} {a len : Nat} {g : Nat → Int32} (ha : a < n) (he : σ a = .inl (.boolean, len, .inl g)) (hin : vp_in i len) (k : jJ E cl nL M Q n cells slots (pc + 1) lv (.inl (g i.toNatClampNeg) :: r) σ) : jJ E cl nL M Q n cells slots pc lv (.inl i :: .inr (.inr (some (.inl a))) :: r) σ := by
  obtain ⟨hx, hb, -, -, -, ⟨hK, -⟩, -⟩ := X
  intro H locs ls hW hS hL
  have hP := jW_one hW ha
  rw [he] at hP
  obtain ⟨t0, ht0⟩ := jty_in (E := E) (t := .boolean) (by decide)
  exact va_zald hx hb hK hP 0 t0 rfl ht0 hin hd (k H locs ls hW hS hL)
theorem jk_zaldT (X : jX E own Ts cl tb nL ini cc M) {pc : Nat} (hd : decode cc pc = .ok (.baload, 1)) {lv : List (Option jv)} {r : List jv} {σ : Nat → jcell} {i : Int32} {j len : Nat} {g : Nat → Int32} {s1 s2 s3 : String} (he : tb j = some (s1, s2, s3, .boolean, len, g)) (hin : vp_in i len) (k : jJ E cl nL M Q n cells slots (pc + 1) lv (.inl (g i.toNatClampNeg) :: r) σ) : jJ E cl nL M Q n cells slots pc lv (.inl i :: .inr (.inr (some (.inr j))) :: r) σ := by
  obtain ⟨hx, hb, -, -, -, ⟨-, hT, -⟩, -⟩ := X
  exact fun H locs ls hW hS hL => va_tz hx hb (hT j _ he).2 hS hin rfl hd (k H locs ls hW hS hL)
theorem jk_cald (X : jX E own Ts cl tb nL ini cc M) {pc : Nat} (hd : decode cc pc = .ok (.caload, 1)) {lv : List (Option jv)} {r : List jv} {σ : Nat → jcell} {i : Int32} {a len : Nat} {g : Nat → Int32} (ha : a < n) (he : σ a = .inl (.char, len, .inl g)) (hin : vp_in i len) (k : jJ E cl nL M Q n cells slots (pc + 1) lv (.inl (g i.toNatClampNeg) :: r) σ) : jJ E cl nL M Q n cells slots pc lv (.inl i :: .inr (.inr (some (.inl a))) :: r) σ := by
  obtain ⟨hx, hb, -, -, -, ⟨hK, -⟩, -⟩ := X
  intro H locs ls hW hS hL
  have hP := jW_one hW ha
  rw [he] at hP
  obtain ⟨t0, ht0⟩ := jty_in (E := E) (t := .char) (by decide)
  exact va_cald hx hb hK hP 0 t0 rfl ht0 hin hd (k H locs ls hW hS hL)
theorem jk_caldT (X : jX E own Ts cl tb nL ini cc M) {pc : Nat} (hd : decode cc pc = .ok (.caload, 1)) {lv : List (Option jv)} {r : List jv} {σ : Nat → jcell} {i : Int32} {j len : Nat} {g : Nat → Int32} {s1 s2 s3 : String} (he : tb j = some (s1, s2, s3, .char, len, g)) (hin : vp_in i len) (k : jJ E cl nL M Q n cells slots (pc + 1) lv (.inl (g i.toNatClampNeg) :: r) σ) : jJ E cl nL M Q n cells slots pc lv (.inl i :: .inr (.inr (some (.inr j))) :: r) σ := by
  obtain ⟨hx, hb, -, -, -, ⟨-, hT, -⟩, -⟩ := X
  exact fun H locs ls hW hS hL => va_tc hx hb (hT j _ he).2 hS hin rfl hd (k H locs ls hW hS hL)
theorem jk_iast (X : jX E own Ts cl tb nL ini cc M) {pc : Nat} (hd : decode cc pc = .ok (.iastore, 1)) {lv : List (Option jv)} {r : List jv} {σ : Nat → jcell} {i x : Int32} {a len : Nat} {g : Nat → Int32} (ha : a < n) (he : σ a = .inl (.int, len, .inl g)) (hin : vp_in i len) (k : jJ E cl nL M Q n cells slots (pc + 1) lv r (jup σ a (.inl (.int, len, .inl (upd g i.toNatClampNeg (vp_nar .int x)))))) : jJ E cl nL M Q n cells slots pc lv (.inl x :: .inl i :: .inr (.inr (some (.inl a))) :: r) σ := by
  obtain ⟨hx, hb, -, -, -, ⟨hK, -⟩, -⟩ := X
  intro H locs ls hW hS hL
  have hP := hW.2 a ha
  rw [he] at hP
  obtain ⟨t0, ht0⟩ := jty_in (E := E) (t := .int) (by decide)
  refine W.iast hx hb hP ((hK.2 t0 _ ht0).1 len (fun j => .int (g j))) (fun q => by cases q) (by show ¬ (i < 0 ∨ (arrV _ _ _).slots.size ≤ _); rw [arrV_size]; exact hin) rfl rfl hd fun H1 e z oq => ?_
  refine k H1 _ ls (jW_set hW z oq ?_) (jS_put hS z oq) hL
  show H1[_]? = some (vp_cell _ _)
  rw [e]
  show some ((vp_cell _ (len, .inl g)).setSlot _ _) = _
  rw [vp_cell_i, vp_cell_i, arrV_store]
  congr 2
  funext q
  by_cases hq : q = i.toNatClampNeg
  · subst hq
    simp [updV, upd, vp_nar]
    try rfl
  · simp [updV, upd, hq]
theorem jk_bast (X : jX E own Ts cl tb nL ini cc M) {pc : Nat} (hd : decode cc pc = .ok (.bastore, 1)) {lv : List (Option jv)} {r : List jv} {σ : Nat → jcell} {i x : Int32} {a len : Nat} {g : Nat → Int32} (ha : a < n) (he : σ a = .inl (.byte, len, .inl g)) (hin : vp_in i len) (k : jJ E cl nL M Q n cells slots (pc + 1) lv r (jup σ a (.inl (.byte, len, .inl (upd g i.toNatClampNeg (vp_nar .byte x)))))) : jJ E cl nL M Q n cells slots pc lv (.inl x :: .inl i :: .inr (.inr (some (.inl a))) :: r) σ := by
  obtain ⟨hx, hb, -, -, -, ⟨hK, -⟩, -⟩ := X
  intro H locs ls hW hS hL
  have hP := hW.2 a ha
  rw [he] at hP
  obtain ⟨t0, ht0⟩ := jty_in (E := E) (t := .byte) (by decide)
  refine W.bast hx hb hP ((hK.2 t0 _ ht0).1 len (fun j => .int (g j))) (fun q => by cases q) (by show ¬ (i < 0 ∨ (arrV _ _ _).slots.size ≤ _); rw [arrV_size]; exact hin) rfl rfl hd fun H1 e z oq => ?_
  refine k H1 _ ls (jW_set hW z oq ?_) (jS_put hS z oq) hL
  show H1[_]? = some (vp_cell _ _)
  rw [e]
  show some ((vp_cell _ (len, .inl g)).setSlot _ _) = _
  rw [vp_cell_i, vp_cell_i, arrV_store]
  congr 2
  funext q
  by_cases hq : q = i.toNatClampNeg
  · subst hq
    simp [updV, upd, vp_nar]
    try rfl
  · simp [updV, upd, hq]
theorem jk_zast (X : jX E own Ts cl tb nL ini cc M) {pc : Nat} (hd : decode cc pc = .ok (.bastore, 1)) {lv : List (Option jv)} {r : List jv} {σ : Nat → jcell} {i x : Int32} {a len : Nat} {g : Nat → Int32} (ha : a < n) (he : σ a = .inl (.boolean, len, .inl g)) (hin : vp_in i len) (k : jJ E cl nL M Q n cells slots (pc + 1) lv r (jup σ a (.inl (.boolean, len, .inl (upd g i.toNatClampNeg (vp_nar .boolean x)))))) : jJ E cl nL M Q n cells slots pc lv (.inl x :: .inl i :: .inr (.inr (some (.inl a))) :: r) σ := by
  obtain ⟨hx, hb, -, -, -, ⟨hK, -⟩, -⟩ := X
  intro H locs ls hW hS hL
  have hP := hW.2 a ha
  rw [he] at hP
  obtain ⟨t0, ht0⟩ := jty_in (E := E) (t := .boolean) (by decide)
  refine W.zast hx hb hP ((hK.2 t0 _ ht0).1 len (fun j => .int (g j))) (fun q => by cases q) (by show ¬ (i < 0 ∨ (arrV _ _ _).slots.size ≤ _); rw [arrV_size]; exact hin) rfl rfl hd fun H1 e z oq => ?_
  refine k H1 _ ls (jW_set hW z oq ?_) (jS_put hS z oq) hL
  show H1[_]? = some (vp_cell _ _)
  rw [e]
  show some ((vp_cell _ (len, .inl g)).setSlot _ _) = _
  rw [vp_cell_i, vp_cell_i, arrV_store]
  congr 2
  funext q
  by_cases hq : q = i.toNatClampNeg
  · subst hq
    simp [updV, upd, vp_nar]
    try rfl
  · simp [updV, upd, hq]
theorem jk_cast (X : jX E own Ts cl tb nL ini cc M) {pc : Nat} (hd : decode cc pc = .ok (.castore, 1)) {lv : List (Option jv)} {r : List jv} {σ : Nat → jcell} {i x : Int32} {a len : Nat} {g : Nat → Int32} (ha : a < n) (he : σ a = .inl (.char, len, .inl g)) (hin : vp_in i len) (k : jJ E cl nL M Q n cells slots (pc + 1) lv r (jup σ a (.inl (.char, len, .inl (upd g i.toNatClampNeg (vp_nar .char x)))))) : jJ E cl nL M Q n cells slots pc lv (.inl x :: .inl i :: .inr (.inr (some (.inl a))) :: r) σ := by
  obtain ⟨hx, hb, -, -, -, ⟨hK, -⟩, -⟩ := X
  intro H locs ls hW hS hL
  have hP := hW.2 a ha
  rw [he] at hP
  obtain ⟨t0, ht0⟩ := jty_in (E := E) (t := .char) (by decide)
  refine W.cast hx hb hP ((hK.2 t0 _ ht0).1 len (fun j => .int (g j))) (fun q => by cases q) (by show ¬ (i < 0 ∨ (arrV _ _ _).slots.size ≤ _); rw [arrV_size]; exact hin) rfl rfl hd fun H1 e z oq => ?_
  refine k H1 _ ls (jW_set hW z oq ?_) (jS_put hS z oq) hL
  show H1[_]? = some (vp_cell _ _)
  rw [e]
  show some ((vp_cell _ (len, .inl g)).setSlot _ _) = _
  rw [vp_cell_i, vp_cell_i, arrV_store]
  congr 2
  funext q
  by_cases hq : q = i.toNatClampNeg
  · subst hq
    simp [updV, upd, vp_nar]
    try rfl
  · simp [updV, upd, hq]
theorem jk_lald (X : jX E own Ts cl tb nL ini cc M) {pc : Nat} (hd : decode cc pc = .ok (.laload, 1)) {lv : List (Option jv)} {r : List jv} {σ : Nat → jcell} {i : Int32} {a len : Nat} {g : Nat → Int64} (ha : a < n) (he : σ a = .inl (.long, len, .inr (.inl g))) (hin : vp_in i len) (k : jJ E cl nL M Q n cells slots (pc + 1) lv (.inr (.inl (g i.toNatClampNeg)) :: r) σ) : jJ E cl nL M Q n cells slots pc lv (.inl i :: .inr (.inr (some (.inl a))) :: r) σ := by
  obtain ⟨hx, hb, -, -, -, ⟨hK, -⟩, -⟩ := X
  intro H locs ls hW hS hL
  have hP := jW_one hW ha
  rw [he] at hP
  obtain ⟨t0, ht0⟩ := jty_in (E := E) (t := .long) (by decide)
  exact va_lald hx hb hK hP 0 t0 rfl ht0 hin hd (k H locs ls hW hS hL)
theorem jk_last (X : jX E own Ts cl tb nL ini cc M) {pc : Nat} (hd : decode cc pc = .ok (.lastore, 1)) {lv : List (Option jv)} {r : List jv} {σ : Nat → jcell} {i : Int32} {x : Int64} {a len : Nat} {g : Nat → Int64} (ha : a < n) (he : σ a = .inl (.long, len, .inr (.inl g))) (hin : vp_in i len) (k : jJ E cl nL M Q n cells slots (pc + 1) lv r (jup σ a (.inl (.long, len, .inr (.inl (vp_updL g i.toNatClampNeg x)))))) : jJ E cl nL M Q n cells slots pc lv (.inr (.inl x) :: .inl i :: .inr (.inr (some (.inl a))) :: r) σ := by
  obtain ⟨hx, hb, -, -, -, ⟨hK, -⟩, -⟩ := X
  intro H locs ls hW hS hL
  have hP := hW.2 a ha
  rw [he] at hP
  obtain ⟨t0, ht0⟩ := jty_in (E := E) (t := .long) (by decide)
  refine W.last hx hb hP ((hK.2 t0 _ ht0).1 len (fun j => .long (g j))) (fun q => by cases q) (by show ¬ (i < 0 ∨ (arrV _ _ _).slots.size ≤ _); rw [arrV_size]; exact hin) rfl rfl hd fun H1 e z oq => ?_
  refine k H1 _ ls (jW_set hW z oq ?_) (jS_put hS z oq) hL
  show H1[_]? = some (vp_cell _ _)
  rw [e]
  show some ((vp_cell _ (len, .inr (.inl g))).setSlot _ _) = _
  rw [vp_cell_l, vp_cell_l, arrV_store]
  congr 2
  funext q
  by_cases hq : q = i.toNatClampNeg
  · subst hq
    simp [updV, vp_updL]
  · simp [updV, vp_updL, hq]
theorem jk_alen (X : jX E own Ts cl tb nL ini cc M) {pc : Nat} (hd : decode cc pc = .ok (.arraylength, 1)) {lv : List (Option jv)} {r : List jv} {σ : Nat → jcell} {a : Nat} {t : FieldType} {y : vp_A} (ha : a < n) (he : σ a = .inl (t, y)) (ht : t ∈ jtys) (k : jJ E cl nL M Q n cells slots (pc + 1) lv (.inl (Int32.ofNat y.1) :: r) σ) : jJ E cl nL M Q n cells slots pc lv (.inr (.inr (some (.inl a))) :: r) σ := by
  obtain ⟨hx, hb, -, -, -, ⟨hK, -⟩, -⟩ := X
  intro H locs ls hW hS hL
  have hP := jW_one hW ha
  rw [he] at hP
  obtain ⟨t0, ht0⟩ := jty_in (E := E) ht
  exact va_alen hx hb hK hP 0 t0 rfl ht0 rfl hd (k H locs ls hW hS hL)
theorem jk_alenT (X : jX E own Ts cl tb nL ini cc M) {pc : Nat} (hd : decode cc pc = .ok (.arraylength, 1)) {lv : List (Option jv)} {r : List jv} {σ : Nat → jcell} {j len : Nat} {t : FieldType} {g : Nat → Int32} {s1 s2 s3 : String} (he : tb j = some (s1, s2, s3, t, len, g)) (k : jJ E cl nL M Q n cells slots (pc + 1) lv (.inl (Int32.ofNat len) :: r) σ) : jJ E cl nL M Q n cells slots pc lv (.inr (.inr (some (.inr j))) :: r) σ := by
  obtain ⟨hx, hb, -, -, -, ⟨-, hT, -⟩, -⟩ := X
  exact fun H locs ls hW hS hL => va_tlen hx hb (hT j _ he).2 hS rfl hd (k H locs ls hW hS hL)
theorem jk_gets (X : jX E own Ts cl tb nL ini cc M) {pc i wi j : Nat} (hd : decode cc pc = .ok (.getstatic i, 3)) {lv : List (Option jv)} {r : List jv} {σ : Nat → jcell} {q : String × String × String × FieldType × Nat × (Nat → Int32)} (he : tb j = some q) (hw : Ts[wi]? = some (Jvm.Cond.fieldLink own i q.1 q.2.1 q.2.2.1)) (k : jJ E cl nL M Q n cells slots (pc + 3) lv (.inr (.inr (some (.inr j))) :: r) σ) : jJ E cl nL M Q n cells slots pc lv r σ := by
  obtain ⟨hx, hb, -, ho, hts, ⟨-, hT, -⟩, -⟩ := X
  exact fun H locs ls hW hS hL => va_gets hx hb (hT j _ he).1 hS ho (hts _ (jTA_in hw rfl)) (fun _ h9 => h9) hd (k H locs ls hW hS hL)
theorem jk_get (hC : jCl Ts cl) (X : jX E own Ts cl tb nL ini cc M) {pc i wi ci f : Nat} (hd : decode cc pc = .ok (.getfield i, 3)) {q : vw_C} (hq : cl[ci]? = some q) (hf : f < q.2.2) (hw : jlk Ts wi own i (q.2.1 f).1 (q.2.1 f).2.1 (q.2.1 f).2.2.1 = true) {lv : List (Option jv)} {r : List jv} {σ : Nat → jcell} {a : Nat} {fs : List jv} {v : jv} (ha : a < n) (he : σ a = .inr (ci, fs)) (hv : fs[f]? = some v) (k : jJ E cl nL M Q n cells slots (pc + 3) lv (v :: r) σ) : jJ E cl nL M Q n cells slots pc lv (.inr (.inr (some (.inl a))) :: r) σ := by
  obtain ⟨hx, hb, -, ho, hts, ⟨hK, -, -, hN⟩, -⟩ := X
  intro H locs ls hW hS hL
  have hP := jW_one hW ha
  rw [he] at hP
  rcases jlk_or hw with h8 | ⟨host, h8⟩
  · exact va_get (C := q.1) (T := q.2.1) (N := q.2.2) hx hb hts (hC ci q hq).1 ho hK hP 0 rfl hq f hf (hts _ h8) (fun _ h9 => h9) (by rw [List.getElem?_map, hv]; rfl) hd (k H locs ls hW hS hL)
  · exact va_getN (C := q.1) (T := q.2.1) (N := q.2.2) (host := host) hx hb hts (hC ci q hq).1 ho hK hP 0 rfl hq f hf (va_Nw.use rfl (hN _ h8)) (fun _ h9 => h9) (by rw [List.getElem?_map, hv]; rfl) hd (k H locs ls hW hS hL)
theorem jk_put (hC : jCl Ts cl) (X : jX E own Ts cl tb nL ini cc M) {pc i wi ci f kd : Nat} (hd : decode cc pc = .ok (.putfield i, 3)) {q : vw_C} (hq : cl[ci]? = some q) (hf : f < q.2.2) (hw : jlk Ts wi own i (q.2.1 f).1 (q.2.1 f).2.1 (q.2.1 f).2.2.1 = true) (hfin : (q.2.1 f).2.2.2 = true → ini = true ∧ (q.2.1 f).1 = own ∧ Jvm.Cond.fieldLink own i (q.2.1 f).1 (q.2.1 f).2.1 (q.2.1 f).2.2.1 ∈ jTA Ts) (hkd : jkd (parseFieldDescriptor (q.2.1 f).2.2.1) = kd) {lv : List (Option jv)} {r : List jv} {σ : Nat → jcell} {a : Nat} {fs : List jv} {v : jv} (ha : a < n) (he : σ a = .inr (ci, fs)) (hl : f < fs.length) (hv : jfit kd v) (k : jJ E cl nL M Q n cells slots (pc + 3) lv r (jup σ a (.inr (ci, fs.set f v)))) : jJ E cl nL M Q n cells slots pc lv (v :: .inr (.inr (some (.inl a))) :: r) σ := by
  obtain ⟨hx, hb, -, ho, hts, ⟨hK, -, -, hN⟩, -, hini⟩ := X
  intro H locs ls hW hS hL
  obtain ⟨hin, ⟨ty0, hty⟩, hnm⟩ := hC ci q hq
  have hap := va_apart (own := own) hts hin ty0 hty hnm hK hq
  have hP := hW.2 a ha
  rw [he] at hP
  obtain ⟨r0, h1, cell, q1, q2, q3, q4⟩ := hP
  have hr : r0 = q := Option.some.inj (h1.symm.trans hq)
  subst hr
  obtain ⟨hSl, hfc, kC, hkC, hkind⟩ := hK.1 ci _ hq
  obtain ⟨cf, kf, fi, fd, hi, hsl⟩ := hSl f hf
  obtain ⟨ty, hpty, hnw, hft⟩ := jfit_n (E := E) hv hkd
  have hlay := hts _ (hin _ (u_in_lay hf))
  have hst := (u_facts hfc hkC (u_lays hts hin hf) hi).1
  have hlen : f < (fs.map (jc E)).length := by rw [List.length_map]; exact hl
  have hend : ∀ H' : Heap, H'[E.2.2.2 + a]? = some (cell.setSlot fd.slot (jc E v)) → H'.size = H.size → (∀ z, z ≠ E.2.2.2 + a → H'[z]? = H[z]?) → jW E cl (jup σ a (.inr (ci, fs.set f v))) n H' := by
    intro H' e1 e2 e3
    refine jW_set hW e2 e3 ⟨_, hq, ?_⟩
    rw [hsl] at e1
    refine t_OB.to (V := updV (vp_V (fs.map (jc E))) f (jc E v)) ⟨_, e1, q2, q3, t_set q4 hap hf _⟩ (fun j _ => ?_)
    rw [vp_updV_set hlen]
    show vp_V ((fs.map (jc E)).set f (jc E v)) j = vp_V ((fs.set f v).map (jc E)) j
    rw [List.map_set]
  by_cases hfn : (r0.2.1 f).2.2.2 = true
  · unfold u_lay at hlay
    rw [if_pos hfn] at hlay
    obtain ⟨hi1, hi2, h8⟩ := hfin hfn
    have hcf : M.2.2.2.2.2.1.cls = cf := by
      obtain ⟨_, _, c', _, _, _, -, -, hf', -, -, -, hown2, -⟩ := Cond.laysFinal_spec hlay
      have e1 : c' = cf := by have := hi.symm.trans hf'; simp at this; exact this.1.symm
      rw [hi2] at hown2
      rw [← e1]; exact Option.some.inj (ho.symm.trans hown2)
    have h6 := u_fits hfc hkC hkind (Or.inr hlay) hi hpty hnw hft
    exact W.putFinK hx hb ho (hts _ h8) hi hst hcf (hini hi1) (by rw [q2]; exact h6) q1 q3 (by rw [hsl]; exact k2_hasslot (q4 f hf)) rfl rfl hd fun H' e1 e2 e3 => k H' _ ls (hend H' e1 e2 e3) (jS_put hS e2 e3) hL
  · unfold u_lay at hlay
    rw [if_neg hfn] at hlay
    have h6 := u_store hfc hkC hkind hlay hi hpty hnw hft
    rcases jlk_or hw with h8 | ⟨host, h8⟩
    · exact W.putK hx hb (f := fd) ⟨ho, hts _ h8, ⟨_, _, _, hi⟩, hst⟩ (by rw [q2]; exact h6) q1 q3 (by rw [hsl]; exact k2_hasslot (q4 f hf)) rfl rfl hd fun H' e1 e2 e3 => k H' _ ls (hend H' e1 e2 e3) (jS_put hS e2 e3) hL
    · exact va_WputK hx hb (f := fd) ho (va_Nw.use rfl (hN _ h8)) hi hst (by rw [q2]; exact h6) q1 q3 (by rw [hsl]; exact k2_hasslot (q4 f hf)) rfl rfl hd fun H' e1 e2 e3 => k H' _ ls (hend H' e1 e2 e3) (jS_put hS e2 e3) hL
set_option maxHeartbeats 4000000 in
/-- one instruction: what 'jstep' asks is enough -/
theorem jstep_ok (hC : jCl Ts cl) (X : jX E own Ts cl tb nL ini cc M) {pc : Nat} {I : Instr} {ln : Nat} {py : jP} (hk : jok own Ts cl tb nL ini cc pc (I, ln, py) = true) {lv : List (Option jv)} {st : List jv} {σ : Nat → jcell} {nx lf : jN} (h : jstep tb n I ln py pc lv st σ nx lf)
    (hn : ∀ lv' st' σ', nx (pc + ln) lv' st' σ' → jJ E cl nL M Q n cells slots (pc + ln) lv' st' σ') (hl : ∀ pc' lv' st' σ', lf pc' lv' st' σ' → jJ E cl nL M Q n cells slots pc' lv' st' σ') : jJ E cl nL M Q n cells slots pc lv st σ := by
  unfold jok at hk
  rw [Bool.and_eq_true, decide_eq_true_eq] at hk
  obtain ⟨hd, hk⟩ := hk
  dsimp only at hd hk
  cases I
  case aconst_null =>
    simp only [jok1, Bool.and_eq_true, decide_eq_true_eq] at hk
    simp only [jstep] at h
    subst hk; exact jk_anull X hd (hn _ _ _ h)
  case iconst z =>
    simp only [jok1, Bool.and_eq_true, decide_eq_true_eq] at hk
    simp only [jstep] at h
    obtain ⟨rfl, hv⟩ := hk; exact jk_iconst X hd hv (hn _ _ _ h)
  case bipush z =>
    simp only [jok1, Bool.and_eq_true, decide_eq_true_eq] at hk
    simp only [jstep] at h
    obtain ⟨rfl, hv⟩ := hk; exact jk_bipush X hd hv (hn _ _ _ h)
  case sipush z =>
    simp only [jok1, Bool.and_eq_true, decide_eq_true_eq] at hk
    simp only [jstep] at h
    obtain ⟨rfl, hv⟩ := hk; exact jk_sipush X hd hv (hn _ _ _ h)
  case lconst z =>
    simp only [jok1, Bool.and_eq_true, decide_eq_true_eq] at hk
    simp only [jstep] at h
    obtain ⟨rfl, hv⟩ := hk; exact jk_lconst X hd hv (hn _ _ _ h)
  case ldc z =>
    simp only [jok1, Bool.and_eq_true, decide_eq_true_eq] at hk
    simp only [jstep] at h
    obtain ⟨rfl, hv⟩ := hk; exact jk_ldc X hd hv (hn _ _ _ h)
  case ldc2_w z =>
    simp only [jok1, Bool.and_eq_true, decide_eq_true_eq] at hk
    simp only [jstep] at h
    obtain ⟨rfl, hv⟩ := hk; exact jk_ldc2 X hd hv (hn _ _ _ h)
  case iload_n z =>
    simp only [jok1, Bool.and_eq_true, decide_eq_true_eq] at hk
    simp only [jstep] at h
    obtain ⟨rfl, hv⟩ := hk
    rw [← hv] at h
    unfold jldi at h
    split at h
    next hx => exact jk_iload_n X hd hx (hn _ _ _ h)
    next => exact h.elim
  case iload z =>
    simp only [jok1, Bool.and_eq_true, decide_eq_true_eq] at hk
    simp only [jstep] at h
    subst hk
    unfold jldi at h
    split at h
    next hx => exact jk_iload X hd hx (hn _ _ _ h)
    next => exact h.elim
  case lload_n z =>
    simp only [jok1, Bool.and_eq_true, decide_eq_true_eq] at hk
    simp only [jstep] at h
    obtain ⟨rfl, hv⟩ := hk
    rw [← hv] at h
    unfold jldl at h
    split at h
    next hx => exact jk_lload_n X hd hx (hn _ _ _ h)
    next => exact h.elim
  case lload z =>
    simp only [jok1, Bool.and_eq_true, decide_eq_true_eq] at hk
    simp only [jstep] at h
    subst hk
    unfold jldl at h
    split at h
    next hx => exact jk_lload X hd hx (hn _ _ _ h)
    next => exact h.elim
  case aload_n z =>
    simp only [jok1, Bool.and_eq_true, decide_eq_true_eq] at hk
    simp only [jstep] at h
    obtain ⟨rfl, hv⟩ := hk
    rw [← hv] at h
    unfold jlda at h
    split at h
    next hx => exact jk_aload_n X hd hx (hn _ _ _ h)
    next => exact h.elim
  case aload z =>
    simp only [jok1, Bool.and_eq_true, decide_eq_true_eq] at hk
    simp only [jstep] at h
    subst hk
    unfold jlda at h
    split at h
    next hx => exact jk_aload X hd hx (hn _ _ _ h)
    next => exact h.elim
  case istore_n z =>
    simp only [jok1, Bool.and_eq_true, decide_eq_true_eq] at hk
    simp only [jstep] at h
    obtain ⟨⟨rfl, hi⟩, hv⟩ := hk
    rw [← hv] at h
    unfold j1 at h
    split at h
    next => exact jk_istore_n X hd hi (hn _ _ _ h)
    next => exact h.elim
  case istore z =>
    simp only [jok1, Bool.and_eq_true, decide_eq_true_eq] at hk
    simp only [jstep] at h
    obtain ⟨rfl, hi⟩ := hk
    unfold j1 at h
    split at h
    next => exact jk_istore X hd hi (hn _ _ _ h)
    next => exact h.elim
  case lstore_n z =>
    simp only [jok1, Bool.and_eq_true, decide_eq_true_eq] at hk
    simp only [jstep] at h
    obtain ⟨⟨rfl, hi⟩, hv⟩ := hk
    rw [← hv] at h
    unfold jl1 at h
    split at h
    next => exact jk_lstore_n X hd hi (hn _ _ _ h)
    next => exact h.elim
  case lstore z =>
    simp only [jok1, Bool.and_eq_true, decide_eq_true_eq] at hk
    simp only [jstep] at h
    obtain ⟨rfl, hi⟩ := hk
    unfold jl1 at h
    split at h
    next => exact jk_lstore X hd hi (hn _ _ _ h)
    next => exact h.elim
  case astore_n z =>
    simp only [jok1, Bool.and_eq_true, decide_eq_true_eq] at hk
    simp only [jstep] at h
    obtain ⟨⟨rfl, hi⟩, hv⟩ := hk
    rw [← hv] at h
    unfold ja1 at h
    split at h
    next => exact jk_astore_n X hd hi (hn _ _ _ h)
    next => exact h.elim
  case astore z =>
    simp only [jok1, Bool.and_eq_true, decide_eq_true_eq] at hk
    simp only [jstep] at h
    obtain ⟨rfl, hi⟩ := hk
    unfold ja1 at h
    split at h
    next => exact jk_astore X hd hi (hn _ _ _ h)
    next => exact h.elim
  case iinc z w =>
    simp only [jok1, Bool.and_eq_true, decide_eq_true_eq] at hk
    simp only [jstep] at h
    obtain ⟨⟨rfl, hi⟩, hv⟩ := hk
    unfold jldi at h
    split at h
    next hx => exact jk_iinc X hd hi hv hx (hn _ _ _ h)
    next => exact h.elim
  case iadd =>
    simp only [jok1, Bool.and_eq_true, decide_eq_true_eq] at hk
    simp only [jstep] at h
    subst hk
    unfold j2 at h
    split at h
    next => exact jk_iadd X hd (hn _ _ _ h)
    next => exact h.elim
  case isub =>
    simp only [jok1, Bool.and_eq_true, decide_eq_true_eq] at hk
    simp only [jstep] at h
    subst hk
    unfold j2 at h
    split at h
    next => exact jk_isub X hd (hn _ _ _ h)
    next => exact h.elim
  case imul =>
    simp only [jok1, Bool.and_eq_true, decide_eq_true_eq] at hk
    simp only [jstep] at h
    subst hk
    unfold j2 at h
    split at h
    next => exact jk_imul X hd (hn _ _ _ h)
    next => exact h.elim
  case iand =>
    simp only [jok1, Bool.and_eq_true, decide_eq_true_eq] at hk
    simp only [jstep] at h
    subst hk
    unfold j2 at h
    split at h
    next => exact jk_iand X hd (hn _ _ _ h)
    next => exact h.elim
  case ior =>
    simp only [jok1, Bool.and_eq_true, decide_eq_true_eq] at hk
    simp only [jstep] at h
    subst hk
    unfold j2 at h
    split at h
    next => exact jk_ior X hd (hn _ _ _ h)
    next => exact h.elim
  case ixor =>
    simp only [jok1, Bool.and_eq_true, decide_eq_true_eq] at hk
    simp only [jstep] at h
    subst hk
    unfold j2 at h
    split at h
    next => exact jk_ixor X hd (hn _ _ _ h)
    next => exact h.elim
  case ishl =>
    simp only [jok1, Bool.and_eq_true, decide_eq_true_eq] at hk
    simp only [jstep] at h
    subst hk
    unfold j2 at h
    split at h
    next => exact jk_ishl X hd (hn _ _ _ h)
    next => exact h.elim
  case ishr =>
    simp only [jok1, Bool.and_eq_true, decide_eq_true_eq] at hk
    simp only [jstep] at h
    subst hk
    unfold j2 at h
    split at h
    next => exact jk_ishr X hd (hn _ _ _ h)
    next => exact h.elim
  case iushr =>
    simp only [jok1, Bool.and_eq_true, decide_eq_true_eq] at hk
    simp only [jstep] at h
    subst hk
    unfold j2 at h
    split at h
    next => exact jk_iushr X hd (hn _ _ _ h)
    next => exact h.elim
  case idiv =>
    simp only [jok1, Bool.and_eq_true, decide_eq_true_eq] at hk
    simp only [jstep] at h
    subst hk
    unfold j2 at h
    split at h
    next => exact jk_idiv X hd h.1 (hn _ _ _ h.2)
    next => exact h.elim
  case irem =>
    simp only [jok1, Bool.and_eq_true, decide_eq_true_eq] at hk
    simp only [jstep] at h
    subst hk
    unfold j2 at h
    split at h
    next => exact jk_irem X hd h.1 (hn _ _ _ h.2)
    next => exact h.elim
  case ineg =>
    simp only [jok1, Bool.and_eq_true, decide_eq_true_eq] at hk
    simp only [jstep] at h
    subst hk
    unfold j1 at h
    split at h
    next => exact jk_ineg X hd (hn _ _ _ h)
    next => exact h.elim
  case ladd =>
    simp only [jok1, Bool.and_eq_true, decide_eq_true_eq] at hk
    simp only [jstep] at h
    subst hk
    unfold jl2 at h
    split at h
    next => exact jk_ladd X hd (hn _ _ _ h)
    next => exact h.elim
  case lsub =>
    simp only [jok1, Bool.and_eq_true, decide_eq_true_eq] at hk
    simp only [jstep] at h
    subst hk
    unfold jl2 at h
    split at h
    next => exact jk_lsub X hd (hn _ _ _ h)
    next => exact h.elim
  case lmul =>
    simp only [jok1, Bool.and_eq_true, decide_eq_true_eq] at hk
    simp only [jstep] at h
    subst hk
    unfold jl2 at h
    split at h
    next => exact jk_lmul X hd (hn _ _ _ h)
    next => exact h.elim
  case land =>
    simp only [jok1, Bool.and_eq_true, decide_eq_true_eq] at hk
    simp only [jstep] at h
    subst hk
    unfold jl2 at h
    split at h
    next => exact jk_land X hd (hn _ _ _ h)
    next => exact h.elim
  case lor =>
    simp only [jok1, Bool.and_eq_true, decide_eq_true_eq] at hk
    simp only [jstep] at h
    subst hk
    unfold jl2 at h
    split at h
    next => exact jk_lor X hd (hn _ _ _ h)
    next => exact h.elim
  case lxor =>
    simp only [jok1, Bool.and_eq_true, decide_eq_true_eq] at hk
    simp only [jstep] at h
    subst hk
    unfold jl2 at h
    split at h
    next => exact jk_lxor X hd (hn _ _ _ h)
    next => exact h.elim
  case lcmp =>
    simp only [jok1, Bool.and_eq_true, decide_eq_true_eq] at hk
    simp only [jstep] at h
    subst hk
    unfold jl2 at h
    split at h
    next => exact jk_lcmp X hd (hn _ _ _ h)
    next => exact h.elim
  case ldiv =>
    simp only [jok1, Bool.and_eq_true, decide_eq_true_eq] at hk
    simp only [jstep] at h
    subst hk
    unfold jl2 at h
    split at h
    next => exact jk_ldiv X hd h.1 (hn _ _ _ h.2)
    next => exact h.elim
  case lrem =>
    simp only [jok1, Bool.and_eq_true, decide_eq_true_eq] at hk
    simp only [jstep] at h
    subst hk
    unfold jl2 at h
    split at h
    next => exact jk_lrem X hd h.1 (hn _ _ _ h.2)
    next => exact h.elim
  case lneg =>
    simp only [jok1, Bool.and_eq_true, decide_eq_true_eq] at hk
    simp only [jstep] at h
    subst hk
    unfold jl1 at h
    split at h
    next => exact jk_lneg X hd (hn _ _ _ h)
    next => exact h.elim
  case lshl =>
    simp only [jok1, Bool.and_eq_true, decide_eq_true_eq] at hk
    simp only [jstep] at h
    subst hk
    unfold jli at h
    split at h
    next => exact jk_lshl X hd (hn _ _ _ h)
    next => exact h.elim
  case lshr =>
    simp only [jok1, Bool.and_eq_true, decide_eq_true_eq] at hk
    simp only [jstep] at h
    subst hk
    unfold jli at h
    split at h
    next => exact jk_lshr X hd (hn _ _ _ h)
    next => exact h.elim
  case lushr =>
    simp only [jok1, Bool.and_eq_true, decide_eq_true_eq] at hk
    simp only [jstep] at h
    subst hk
    unfold jli at h
    split at h
    next => exact jk_lushr X hd (hn _ _ _ h)
    next => exact h.elim
  case i2l =>
    simp only [jok1, Bool.and_eq_true, decide_eq_true_eq] at hk
    simp only [jstep] at h
    subst hk
    unfold j1 at h
    split at h
    next => exact jk_i2l X hd (hn _ _ _ h)
    next => exact h.elim
  case i2b =>
    simp only [jok1, Bool.and_eq_true, decide_eq_true_eq] at hk
    simp only [jstep] at h
    subst hk
    unfold j1 at h
    split at h
    next => exact jk_i2b X hd (hn _ _ _ h)
    next => exact h.elim
  case i2c =>
    simp only [jok1, Bool.and_eq_true, decide_eq_true_eq] at hk
    simp only [jstep] at h
    subst hk
    unfold j1 at h
    split at h
    next => exact jk_i2c X hd (hn _ _ _ h)
    next => exact h.elim
  case l2i =>
    simp only [jok1, Bool.and_eq_true, decide_eq_true_eq] at hk
    simp only [jstep] at h
    subst hk
    unfold jl1 at h
    split at h
    next => exact jk_l2i X hd (hn _ _ _ h)
    next => exact h.elim
  case dup =>
    simp only [jok1, Bool.and_eq_true, decide_eq_true_eq] at hk
    simp only [jstep] at h
    subst hk
    unfold jdup at h
    split at h
    next => exact jk_dup X hd h.1 (hn _ _ _ h.2)
    next => exact h.elim
  case pop =>
    simp only [jok1, Bool.and_eq_true, decide_eq_true_eq] at hk
    simp only [jstep] at h
    subst hk
    unfold jdup at h
    split at h
    next => exact jk_pop X hd h.1 (hn _ _ _ h.2)
    next => exact h.elim
  case dup_x1 =>
    simp only [jok1, Bool.and_eq_true, decide_eq_true_eq] at hk
    simp only [jstep] at h
    subst hk
    unfold jdupx at h
    split at h
    next => exact jk_dup_x1 X hd h.1 h.2.1 (hn _ _ _ h.2.2)
    next => exact h.elim
  case dup_x2 =>
    simp only [jok1, Bool.and_eq_true, decide_eq_true_eq] at hk
    simp only [jstep] at h
    subst hk
    unfold jdupx2 at h
    split at h
    next => exact jk_dup_x2 X hd h.1 h.2.1 h.2.2.1 (hn _ _ _ h.2.2.2)
    next => exact h.elim
  case dup2 =>
    simp only [jok1, Bool.and_eq_true, decide_eq_true_eq] at hk
    simp only [jstep] at h
    subst hk
    unfold jdup2 at h
    split at h
    next => exact jk_dup2_2 X hd (hn _ _ _ h)
    next => exact jk_dup2_11 X hd h.1 h.2.1 (hn _ _ _ h.2.2)
    next => exact h.elim
  case ifCond z w =>
    simp only [jok1, Bool.and_eq_true, decide_eq_true_eq] at hk
    simp only [jstep] at h
    obtain ⟨rfl, ht⟩ := hk
    unfold j1 at h
    split at h
    next => exact jk_if X hd ht h (hl _ _ _ _) (hn _ _ _)
    next => exact h.elim
  case if_icmp z w =>
    simp only [jok1, Bool.and_eq_true, decide_eq_true_eq] at hk
    simp only [jstep] at h
    obtain ⟨rfl, ht⟩ := hk
    unfold j2 at h
    split at h
    next => exact jk_icmp X hd ht h (hl _ _ _ _) (hn _ _ _)
    next => exact h.elim
  case ifnull w =>
    simp only [jok1, Bool.and_eq_true, decide_eq_true_eq] at hk
    simp only [jstep] at h
    obtain ⟨rfl, ht⟩ := hk
    unfold ja1 at h
    split at h
    next => exact jk_ifnull X hd ht (fun q => hl _ _ _ _ (h.1 q)) (fun q => hn _ _ _ (h.2 q))
    next => exact h.elim
  case ifnonnull w =>
    simp only [jok1, Bool.and_eq_true, decide_eq_true_eq] at hk
    simp only [jstep] at h
    obtain ⟨rfl, ht⟩ := hk
    unfold ja1 at h
    split at h
    next => exact jk_ifnonnull X hd ht (fun q => hl _ _ _ _ (h.1 q)) (fun q => hn _ _ _ (h.2 q))
    next => exact h.elim
  case goto w =>
    simp only [jok1, Bool.and_eq_true, decide_eq_true_eq] at hk
    simp only [jstep] at h
    obtain ⟨rfl, ht⟩ := hk; exact jk_goto X hd ht (hl _ _ _ _ h)
  case iaload =>
    simp only [jok1, Bool.and_eq_true, decide_eq_true_eq] at hk
    simp only [jstep] at h
    subst hk
    unfold jald at h
    split at h
    next =>
      obtain ⟨ha, h⟩ := h
      split at h
      next he => obtain ⟨rfl, hin, h⟩ := h; exact jk_iald X hd ha he hin (hn _ _ _ h)
      next => exact h.elim
    next =>
      split at h
      next he => obtain ⟨rfl, hin, h⟩ := h; exact jk_ialdT X hd he hin (hn _ _ _ h)
      next => exact h.elim
    next => exact h.elim
  case caload =>
    simp only [jok1, Bool.and_eq_true, decide_eq_true_eq] at hk
    simp only [jstep] at h
    subst hk
    unfold jald at h
    split at h
    next =>
      obtain ⟨ha, h⟩ := h
      split at h
      next he => obtain ⟨rfl, hin, h⟩ := h; exact jk_cald X hd ha he hin (hn _ _ _ h)
      next => exact h.elim
    next =>
      split at h
      next he => obtain ⟨rfl, hin, h⟩ := h; exact jk_caldT X hd he hin (hn _ _ _ h)
      next => exact h.elim
    next => exact h.elim
  case baload =>
    simp only [jok1, Bool.and_eq_true, decide_eq_true_eq] at hk
    simp only [jstep] at h
    subst hk
    unfold jald at h
    split at h
    next =>
      obtain ⟨ha, h⟩ := h
      split at h
      next he =>
        obtain ⟨ht, hin, h⟩ := h
        split at ht
        · subst ht; exact jk_bald X hd ha he hin (hn _ _ _ h)
        · subst ht; exact jk_zald X hd ha he hin (hn _ _ _ h)
      next => exact h.elim
    next =>
      split at h
      next he =>
        obtain ⟨ht, hin, h⟩ := h
        split at ht
        · subst ht; exact jk_baldT X hd he hin (hn _ _ _ h)
        · subst ht; exact jk_zaldT X hd he hin (hn _ _ _ h)
      next => exact h.elim
    next => exact h.elim
  case laload =>
    simp only [jok1, Bool.and_eq_true, decide_eq_true_eq] at hk
    simp only [jstep] at h
    subst hk
    unfold jlald at h
    split at h
    next =>
      obtain ⟨ha, h⟩ := h
      split at h
      next he => obtain ⟨rfl, hin, h⟩ := h; exact jk_lald X hd ha he hin (hn _ _ _ h)
      next => exact h.elim
    next => exact h.elim
  case iastore =>
    simp only [jok1, Bool.and_eq_true, decide_eq_true_eq] at hk
    simp only [jstep] at h
    subst hk
    unfold jast at h
    split at h
    next =>
      obtain ⟨ha, h⟩ := h
      split at h
      next he => obtain ⟨rfl, hin, h⟩ := h; exact jk_iast X hd ha he hin (hn _ _ _ h)
      next => exact h.elim
    next => exact h.elim
  case castore =>
    simp only [jok1, Bool.and_eq_true, decide_eq_true_eq] at hk
    simp only [jstep] at h
    subst hk
    unfold jast at h
    split at h
    next =>
      obtain ⟨ha, h⟩ := h
      split at h
      next he => obtain ⟨rfl, hin, h⟩ := h; exact jk_cast X hd ha he hin (hn _ _ _ h)
      next => exact h.elim
    next => exact h.elim
  case bastore =>
    simp only [jok1, Bool.and_eq_true, decide_eq_true_eq] at hk
    simp only [jstep] at h
    subst hk
    unfold jast at h
    split at h
    next =>
      obtain ⟨ha, h⟩ := h
      split at h
      next he =>
        obtain ⟨ht, hin, h⟩ := h
        by_cases hz : py.1 = 0
        · rw [if_pos hz] at ht h; subst ht; exact jk_bast X hd ha he hin (hn _ _ _ h)
        · rw [if_neg hz] at ht h; subst ht; exact jk_zast X hd ha he hin (hn _ _ _ h)
      next => exact h.elim
    next => exact h.elim
  case lastore =>
    simp only [jok1, Bool.and_eq_true, decide_eq_true_eq] at hk
    simp only [jstep] at h
    subst hk
    unfold jlast at h
    split at h
    next =>
      obtain ⟨ha, h⟩ := h
      split at h
      next he => obtain ⟨rfl, hin, h⟩ := h; exact jk_last X hd ha he hin (hn _ _ _ h)
      next => exact h.elim
    next => exact h.elim
  case arraylength =>
    simp only [jok1, Bool.and_eq_true, decide_eq_true_eq] at hk
    simp only [jstep] at h
    subst hk
    unfold jalen at h
    split at h
    next =>
      obtain ⟨ha, h⟩ := h
      split at h
      next he => exact jk_alen X hd ha he h.1 (hn _ _ _ h.2)
      next => exact h.elim
    next =>
      split at h
      next he => exact jk_alenT X hd he (hn _ _ _ h)
      next => exact h.elim
    next => exact h.elim
  case getstatic i =>
    simp only [jok1, Bool.and_eq_true, decide_eq_true_eq] at hk
    simp only [jstep] at h
    obtain ⟨rfl, hs⟩ := hk
    unfold jokS at hs
    split at hs
    next he => exact jk_gets X hd he (of_decide_eq_true hs) (hn _ _ _ h)
    next => cases hs
  case getfield i =>
    simp only [jok1, Bool.and_eq_true, decide_eq_true_eq] at hk
    simp only [jstep] at h
    obtain ⟨rfl, hs⟩ := hk
    unfold jokF at hs
    split at hs
    next hq =>
      rw [Bool.and_eq_true, decide_eq_true_eq] at hs
      unfold jget at h
      split at h
      next =>
        obtain ⟨ha, h⟩ := h
        split at h
        next he =>
          obtain ⟨rfl, h⟩ := h
          split at h
          next hv => exact jk_get hC X hd hq hs.1 hs.2 ha he hv (hn _ _ _ h)
          next => exact h.elim
        next => exact h.elim
      next => exact h.elim
    next => cases hs
  case putfield i =>
    simp only [jok1, Bool.and_eq_true, decide_eq_true_eq] at hk
    simp only [jstep] at h
    obtain ⟨⟨rfl, hs⟩, hs2⟩ := hk
    unfold jokF at hs
    unfold jokW at hs2
    split at hs
    next q hq =>
      rw [Bool.and_eq_true, decide_eq_true_eq] at hs
      rw [hq] at hs2
      simp only [Bool.and_eq_true, decide_eq_true_eq, Bool.or_eq_true] at hs2
      unfold jput at h
      split at h
      next =>
        obtain ⟨ha, h⟩ := h
        split at h
        next he =>
          obtain ⟨rfl, hlt, hft, h⟩ := h
          exact jk_put hC X hd hq hs.1 hs.2 (fun hf => by
            rcases hs2.1 with h9 | h9
            · rw [hf] at h9; cases h9
            · exact ⟨h9.1.1, h9.1.2, jTA_in h9.2 rfl⟩) hs2.2 ha he hlt hft (hn _ _ _ h)
        next => exact h.elim
      next => exact h.elim
    next => cases hs
  all_goals exact False.elim h
/-- a row of instructions: what 'jrun' asks is enough -/
theorem jrun_ok (hC : jCl Ts cl) (X : jX E own Ts cl tb nL ini cc M) : ∀ (is : List jI) (pc : Nat) (lv : List (Option jv)) (st : List jv) (σ : Nat → jcell), jokL own Ts cl tb nL ini cc pc is = true → jrun tb n is pc lv st σ (jJ E cl nL M Q n cells slots) → jJ E cl nL M Q n cells slots pc lv st σ
  | [], _, _, _, _, _, h => h
  | i :: r, pc, lv, st, σ, hk, h => by
    have hk2 : jok own Ts cl tb nL ini cc pc i = true ∧ jokL own Ts cl tb nL ini cc (pc + i.2.1) r = true := by
      have h9 := hk
      unfold jokL at h9
      rwa [Bool.and_eq_true] at h9
    exact jstep_ok (I := i.1) (ln := i.2.1) (py := i.2.2) hC X hk2.1 h (fun lv' st' σ' h' => jrun_ok hC X r (pc + i.2.1) lv' st' σ' hk2.2 h') (fun _ _ _ _ h' => h')
end JST
end
section
/-! contracts over pictures -/
abbrev jPo : Type := Option jv → (Nat → jcell) → Nat → Prop
abbrev jY : Type := MethodName × ByteArray × Nat × Option FieldType
def jPc (E : jE) (cl : List vw_C) (tb : jTb) (Ts : List Jvm.Cond) (vals : List jv) (σ : Nat → jcell) (n : Nat) : Array Value → State → Prop := fun v U => v = (vals.map (jc E)).toArray ∧ jW E cl σ n U.heap ∧ jK E cl tb Ts U
def jQc (E : jE) (cl : List vw_C) (post : jPo) : Array Value → State → Outcome → State → Prop := fun _ s o t => (∃ (r : Option jv) (σ' : Nat → jcell) (n' : Nat), o = .returned (r.map (jc E)) ∧ post r σ' n' ∧ jW E cl σ' n' t.heap) ∧ va_F (jA E) s t
def jws (Ts : List Jvm.Cond) (Y : jY) : List Jvm.Cond := Jvm.Cond.code Y.1 Y.2.1 Y.2.2.1 Y.2.2.2 :: jTA Ts
def jMet (l : Launch) (E : jE) (cl : List vw_C) (tb : jTb) (Ts : List Jvm.Cond) (Y : jY) (rm : Room) (vals : List jv) (σ : Nat → jcell) (n : Nat) (post : jPo) : Prop := Met l Y.1 (jws Ts Y) rm (jPc E cl tb Ts vals σ n) (jQc E cl post) rm.cells rm.slots (jA E)
def jQ (E : jE) (cl : List vw_C) (M : jM) (post : jPo) (mc ms : Nat) : State → Prop := MQ M.2.2.2.2.2.2.2.1 (jQc E cl post) M.2.2.2.2.2.2.1 M.2.2.2.2.1 mc ms (jA E)
def jar : List jv → List (Option jv)
  | [] => []
  | v :: r => if jcat v = 2 then some v :: none :: jar r else some v :: jar r
def jent (vals : List jv) (nL : Nat) : List (Option jv) := jar vals ++ List.replicate (nL - (jar vals).length) none
theorem jar_in {E : jE} : ∀ (vals : List jv) (i j : Nat) (v : jv), (jar vals)[j]? = some (some v) → (i + j, jc E v) ∈ lv_args i (vals.map (jc E))
  | [], _, _, _, h => by simp [jar] at h
  | w :: r, i, j, v, h => by
    unfold jar at h
    rw [List.map_cons]
    unfold lv_args
    rw [jc_cat]
    by_cases hc : jcat w = 2
    · rw [if_pos hc] at h
      rw [if_pos hc]
      match j, h with
      | 0, h => have hw : w = v := by simpa using h
                subst hw; exact List.mem_cons_self
      | 1, h => simp at h
      | j + 2, h =>
        have h1 := jar_in (E := E) r (i + 2) j v (by simpa using h)
        rw [show i + 2 + j = i + (j + 2) by omega] at h1
        exact List.mem_cons_of_mem _ h1
    · rw [if_neg hc] at h
      rw [if_neg hc]
      match j, h with
      | 0, h => have hw : w = v := by simpa using h
                subst hw; exact List.mem_cons_self
      | j + 1, h =>
        have h1 := jar_in (E := E) r (i + 1) j v (by simpa using h)
        rw [show i + 1 + j = i + (j + 1) by omega] at h1
        exact List.mem_cons_of_mem _ h1
theorem jent_at {vals : List jv} {nL i : Nat} {v : jv} (h : (jent vals nL)[i]? = some (some v)) : (jar vals)[i]? = some (some v) := by
  unfold jent at h
  by_cases hi : i < (jar vals).length
  · rwa [List.getElem?_append_left hi] at h
  · rw [List.getElem?_append_right (by omega)] at h
    rw [List.getElem?_replicate] at h
    split at h <;> simp at h
section JMT
variable {l : Launch} {E : jE} {cl : List vw_C} {tb : jTb} {Ts : List Jvm.Cond}
theorem jMet_of {Y : jY} {own nm ds : String} {cc : ByteArray} {nL : Nat} {ret : Option FieldType} {rm : Room} {vals : List jv} {σ : Nat → jcell} {n : Nat} {post : jPo} (hY : Y = (⟨own, nm, ds⟩, cc, nL, ret)) (ini : Bool) (hini : ini = true → nm = "<init>") (hy : plainName own = true) (hlen : (lg_sl (vals.map (jc E))).length ≤ nL) (lv0 : List (Option jv)) (hlv : jent vals nL = lv0)
    (body : ∀ M : jM, M.2.1 = l → M.2.2.2.1 = rm → jX E own Ts cl tb nL ini cc M → M.2.2.2.2.2.2.2.2.1.sig.returnType = ret → jJ E cl nL M (jQ E cl M post rm.cells rm.slots) n 0 0 0 lv0 [] σ) : jMet l E cl tb Ts Y rm vals σ n post := by
  subst hlv
  subst hY
  refine Met.ofW (cc := cc) (maxL := nL) (ret := ret) hy rfl ?_
  intro p e s m args below meth c s₁ B hml hv
  obtain ⟨rfl, hW, hK⟩ := hv
  have h := body (p, l, e, rm, s, m, (vals.map (jc E)).toArray, below, meth, c) rfl rfl
    ⟨B.exec, B.bytes, hml, findClass_of_methodNamed B.named, fun w hw => atoms_spec (ws := jws Ts (⟨own, nm, ds⟩, cc, nL, ret)) B.pre w (List.mem_cons_of_mem _ hw), hK, B.notSynchronized, fun hi => by
      have hn := (name_of_methodNamed B.named B.method).1
      rw [hn]
      exact hini hi⟩ B.returns
  have hl := lv_entry (vals.map (jc E)) (n := nL) hlen
  rw [lg_entry_eq]
  exact h s.heap [] _ hW va_S.rf ⟨hl.1, hl.2.1, fun i v hi => by
    have h1 := jar_in (E := E) vals 0 i v (jent_at hi)
    rw [Nat.zero_add] at h1
    exact hl.2.2 _ h1⟩
theorem jSt_go {U V : State} {H : Heap} (h : jSt E tb U) (hvm : U.vm.Alike V.vm) (hH : V.heap = H) (hq : ∀ a : Nat, a < U.heap.size → ¬ jA E a → H[a]? = U.heap[a]?) : jSt E tb V := by
  intro j x hx
  obtain ⟨h1, h2⟩ := h j x hx
  subst hH
  exact ⟨(h1.kept hq).moved hvm, (h2.kept hq).moved hvm⟩
theorem jNw_warm {w : Jvm.Cond} {s U : State} (hW : s.WarmedH U.vm) (hn : jnest w = true) (h : va_Nw w s) : va_Nw w U := by
  unfold jnest at hn
  split at hn
  · exact va_Nw.warmF hW h
  · exact va_Nw.warmM hW h
  · cases hn
theorem jnest_tb {w : Jvm.Cond} (hn : jnest w = true) : w.onTables = true := by
  unfold jnest at hn
  split at hn
  · rfl
  · rfl
  · cases hn
theorem jK_go {s U : State} {H : Heap} {locs : List Loc} (h : jK E cl tb Ts s) (hS : va_S (jA E) s.heap H locs) (hU : U.heap = H) (hW : s.WarmedH U.vm) : jK E cl tb Ts U := by
  obtain ⟨h1, h2, h3, h4⟩ := h
  refine ⟨h1.moved hW.alike, jSt_go h2 hW.alike hU (fun a ha hA => hS.2.1 a ha hA), ?_, fun w hw => jNw_warm hW (List.mem_filter.mp hw).2 (h4 w hw)⟩
  rw [hU]
  exact Nat.le_trans h3 hS.1
theorem jPc_blind {vals : List jv} {σ : Nat → jcell} {n : Nat} : FrameBlind (jPc E cl tb Ts vals σ n) := by
  intro a U g mk ⟨q0, q1, q2, q3, q4, q5⟩
  refine ⟨q0, q1, va_K.moved (u := U) (U := U.calling g mk a) (Vm.Alike.refl U.vm) q2, jSt_go (U := U) (V := U.calling g mk a) (H := U.heap) q3 (Vm.Alike.refl U.vm) rfl (fun _ _ _ => rfl), q4, fun w hw => va_Nw.same (u := U) (U := U.calling g mk a) (jnest_tb (List.mem_filter.mp hw).2) rfl (q5 w hw)⟩
end JMT
section JAF
variable {p : Program} {l : Launch} {e : Env} {R : Room} {s : State} {m : MethodId} {args : Array Value} {below : List Frame} {meth : Method} {c : Code} {H : Heap} {locs : List Loc} {cells slots : Nat} {Q : State → Prop}
theorem jk_after {E : jE} {cl : List vw_C} {post : jPo} {pc mc ms : Nat} {ls : Array Slot} {rest st0 : List Value} {a : Array Value} (hr : va_Run p l e R s m args below meth c H locs cells slots mc ms (F0 m pc ls st0) rest (jQc E cl post a) (jA E)) (hS : va_S (jA E) s.heap H locs)
    (kk : ∀ (r : Option jv) (σ' : Nat → jcell) (n' : Nat), post r σ' n' → ∀ (H1 : Heap) (locs1 : List Loc), jW E cl σ' n' H1 → va_S (jA E) s.heap H1 locs1 → W p l e R s m args below meth c H1 locs1 (cells + mc) (slots + ms) Q (F0 m (pc + 3) ls ((r.map (jc E)).toList ++ rest))) : W p l e R s m args below meth c H locs cells slots Q (F0 m pc ls st0) := by
  intro T hT X
  obtain ⟨v, st₀, t, T', L, h0, X', hL, e1, e2, ⟨⟨r, σ', n', hv, hp, hb⟩, hz, hk⟩, st⟩ := hr T hT X
  have hv' : v = r.map (jc E) := Outcome.returned.inj hv
  subst hv'
  rw [h0] at hz hk
  obtain ⟨t2, a1, b1⟩ := kk r σ' n' hp T'.heap (locs ++ L) (by rw [e1]; exact hb)
    ⟨Nat.le_trans hS.1 (by rw [e1]; exact hz), fun q h1 h2 => by rw [e1, hk q (Nat.lt_of_lt_of_le h1 hS.1) h2]; exact hS.2.1 q h1 h2, fun q hq => by
      rcases List.mem_append.mp hq with h | h
      · exact hS.2.2 q h
      · exact hL q h⟩ T' rfl X'
  exact ⟨t2, st t2 a1, b1⟩
end JAF
/-- what the tables say of a method that is called -/
def jmth (Ts : List Jvm.Cond) (Y : jY) (k : Nat) : Prop := Jvm.Cond.code Y.1 Y.2.1 Y.2.2.1 Y.2.2.2 ∈ jTA Ts ∧ Jvm.Cond.initialized Y.1.cls ∈ jTA Ts ∧ Y.1.cls ≠ "java/lang/invoke/MethodHandle" ∧ Y.1.cls ≠ "java/lang/invoke/VarHandle" ∧ (parseMethodDescriptor Y.1.desc).map (fun d => d.parameters.length) = some k
def jlm (Ts : List Jvm.Cond) (wi : Nat) (own : String) (i : Nat) (y : MethodName) : Bool := match Ts[wi]? with
  | some (Jvm.Cond.methodLink a b c) => decide (a = own) && decide (b = i) && decide (c = y)
  | some (Jvm.Cond.methodLinkNest a b c _) => decide (a = own) && decide (b = i) && decide (c = y)
  | _ => false
theorem jlm_or {Ts : List Jvm.Cond} {wi : Nat} {own : String} {i : Nat} {y : MethodName} (h : jlm Ts wi own i y = true) : Jvm.Cond.methodLink own i y ∈ jTA Ts ∨ ∃ host, Jvm.Cond.methodLinkNest own i y host ∈ jNW Ts := by
  unfold jlm at h
  split at h
  next hw =>
    simp only [Bool.and_eq_true, decide_eq_true_eq] at h
    obtain ⟨⟨rfl, rfl⟩, rfl⟩ := h
    exact Or.inl (jTA_in hw rfl)
  next hw =>
    simp only [Bool.and_eq_true, decide_eq_true_eq] at h
    obtain ⟨⟨rfl, rfl⟩, rfl⟩ := h
    exact Or.inr ⟨_, List.mem_filter.mpr ⟨List.mem_of_getElem? hw, rfl⟩⟩
  next => cases h
theorem jgood_or {w : Jvm.Cond} (h : jgood w = true) : (w.onTables && w.keeps) = true ∨ ∃ ty, w = .arrayClass ty := by
  unfold jgood at h
  rw [Bool.or_eq_true] at h
  rcases h with h | h
  · exact Or.inl h
  · split at h
    next ty => exact Or.inr ⟨ty, rfl⟩
    next => cases h
theorem jws_in {Ts : List Jvm.Cond} {Y : jY} (h : Jvm.Cond.code Y.1 Y.2.1 Y.2.2.1 Y.2.2.2 ∈ jTA Ts) : GoodIn (jTA Ts) (jws Ts Y) := by
  intro w hw
  rcases List.mem_cons.mp hw with rfl | hw
  · exact ⟨h, jgood_or (List.mem_filter.mp h).2⟩
  · exact ⟨hw, jgood_or (List.mem_filter.mp hw).2⟩
section JCA
variable {E : jE} {own : String} {Ts : List Jvm.Cond} {cl : List vw_C} {tb : jTb} {nL : Nat} {ini : Bool} {cc : ByteArray} {M : jM} {Q : State → Prop} {n cells slots : Nat}
theorem jcat_sum (E : jE) (r : List jv) : ((r.map (jc E)).map fun v => v.category).sum = (r.map jcat).sum := by
  rw [List.map_map]
  congr 1
  exact List.map_congr_left fun v _ => jc_cat E v
/-- a static method is called -/
theorem jk_callS (X : jX E own Ts cl tb nL ini cc M) {rm rc : Room} (hR : M.2.2.2.1 = rm) {pc i wi k : Nat} {Y : jY} (hd : decode cc pc = .ok (.invokestatic i, 3)) (hw : jlm Ts wi own i Y.1 = true) (hm : jmth Ts Y k) (hst : Jvm.Cond.static Y.1 ∈ jTA Ts) {lv : List (Option jv)} {r vals : List jv} {σ : Nat → jcell} {post : jPo} (hM : jMet M.2.1 E cl tb Ts Y rc vals σ n post) {st : List jv} (hs : st = vals.reverse ++ r) (hk : vals.length = k)
    (hf : rc.frames + 1 ≤ rm.frames ∧ 8 + (Y.2.2.1 + 11) + rc.locals ≤ rm.locals) (hc : cells + rc.cells ≤ rm.cells ∧ slots + rc.slots ≤ rm.slots) (hz : (r.map jcat).sum ≤ 8)
    (kk : ∀ (v : Option jv) (σ' : Nat → jcell) (n' : Nat), post v σ' n' → jJ E cl nL M Q n' (cells + rc.cells) (slots + rc.slots) (pc + 3) lv (v.toList ++ r) σ') : jJ E cl nL M Q n cells slots pc lv st σ := by
  subst hs
  obtain ⟨p, l, e, R, s, m, args, below, meth, c⟩ := M
  dsimp only at hR
  subst hR
  have X0 := X
  obtain ⟨hx, hb, hml, ho, hts, hK, -, -⟩ := X
  obtain ⟨h1, h2, h3, h4, h5⟩ := hm
  intro H locs ls hW hS hL
  have hpre : PreS s H (jPc E cl tb Ts vals σ n) (vals.map (jc E)) := ⟨jPc_blind, fun U hU hWm => ⟨rfl, by rw [hU]; exact hW, jK_go hK hS hU hWm⟩⟩
  have hstk : ((vals.reverse ++ r).map (jc E)) = (vals.map (jc E)).reverse ++ r.map (jc E) := by rw [List.map_append, List.map_reverse]
  have hgo : ∀ (v : Option jv) (σ' : Nat → jcell) (n' : Nat), post v σ' n' → ∀ (H1 : Heap) (locs1 : List Loc), jW E cl σ' n' H1 → va_S (jA E) s.heap H1 locs1 → W p l e R s m args below meth c H1 locs1 (cells + rc.cells) (slots + rc.slots) Q (F0 m (pc + 3) ls ((v.map (jc E)).toList ++ r.map (jc E))) := by
    intro v σ' n' hp H1 locs1 hW1 hS1
    have h := kk v σ' n' hp H1 locs1 ls hW1 hS1 hL
    have e1 : (v.toList ++ r).map (jc E) = (v.map (jc E)).toList ++ r.map (jc E) := by cases v <;> simp
    rw [e1] at h
    exact h
  rcases jlm_or hw with h8 | ⟨host, h8⟩
  · refine jk_after (va_runS (As := vals.map (jc E)) (rest := r.map (jc E)) (Ts := jTA Ts) ⟨hx, hb, hml, ho, hts⟩ hM (callB_of k hts (jws_in h1) rfl rfl rfl (hts _ h2) (hts _ h8) ⟨h3, h4, h5⟩ hf |> fun q => ⟨q, hts _ hst⟩) hpre rfl (by rw [List.length_map]; exact hk) hL.1 hstk (lv_room (by rw [jcat_sum]; exact hz)) hd hc) hS hgo
  · refine jk_after (va_runSN (As := vals.map (jc E)) (rest := r.map (jc E)) (host := host) (Ts := jTA Ts) ⟨hx, hb, hml, ho, hts⟩ hM ⟨va_cnB k hts (jws_in h1) rfl rfl rfl (hK.2.2.2 _ h8) (hts _ h2) ⟨h3, h4, h5⟩ hf, hts _ hst, trivial⟩ hpre rfl (by rw [List.length_map]; exact hk) hL.1 hstk (lv_room (by rw [jcat_sum]; exact hz)) hd hc) hS hgo
/-- a method of an object of ours is called -/
theorem jk_callV (X : jX E own Ts cl tb nL ini cc M) {rm rc : Room} (hR : M.2.2.2.1 = rm) {pc i wi k ci a : Nat} {Y : jY} (hd : decode cc pc = .ok (.invokevirtual i, 3)) (hw : jlm Ts wi own i Y.1 = true) (hm : jmth Ts Y k) (hin : Jvm.Cond.instanceMethod Y.1 ∈ jTA Ts) (hse : Jvm.Cond.selects Y.1.cls Y.1 Y.1 ∈ jTA Ts) {q : vw_C} (hq : cl[ci]? = some q) (hqc : q.1 = Y.1.cls) {lv : List (Option jv)} {r vals : List jv} {σ : Nat → jcell} {fs : List jv} (ha : a < n) (he : σ a = .inr (ci, fs)) {post : jPo} (hM : jMet M.2.1 E cl tb Ts Y rc (.inr (.inr (some (.inl a))) :: vals) σ n post) {st : List jv} (hs : st = vals.reverse ++ .inr (.inr (some (.inl a))) :: r) (hk : vals.length = k)
    (hf : rc.frames + 1 ≤ rm.frames ∧ 8 + (Y.2.2.1 + 11) + rc.locals ≤ rm.locals) (hc : cells + rc.cells ≤ rm.cells ∧ slots + rc.slots ≤ rm.slots) (hz : (r.map jcat).sum ≤ 8)
    (kk : ∀ (v : Option jv) (σ' : Nat → jcell) (n' : Nat), post v σ' n' → jJ E cl nL M Q n' (cells + rc.cells) (slots + rc.slots) (pc + 3) lv (v.toList ++ r) σ') : jJ E cl nL M Q n cells slots pc lv st σ := by
  subst hs
  obtain ⟨p, l, e, R, s, m, args, below, meth, c⟩ := M
  dsimp only at hR
  subst hR
  obtain ⟨hx, hb, hml, ho, hts, hK, -, -⟩ := X
  obtain ⟨h1, h2, h3, h4, h5⟩ := hm
  intro H locs ls hW hS hL
  have hP1 := jW_one hW ha
  rw [he] at hP1
  obtain ⟨cellB, hcB, hoB, hclB⟩ := va_recv hK.1 hP1 hq (q0 := 0) rfl
  rw [hqc] at hclB
  have hpre : PreV s H Y.1.cls (E.2.2.2 + a) (jPc E cl tb Ts (.inr (.inr (some (.inl a))) :: vals) σ n) (vals.map (jc E)) := ⟨jPc_blind, ⟨cellB, hcB, hoB, hclB⟩, fun U hU hWm => ⟨rfl, by rw [hU]; exact hW, jK_go hK hS hU hWm⟩⟩
  have hstk : ((vals.reverse ++ .inr (.inr (some (.inl a))) :: r).map (jc E)) = (vals.map (jc E)).reverse ++ .ref (E.2.2.2 + a) :: r.map (jc E) := by rw [List.map_append, List.map_reverse]; rfl
  have hgo : ∀ (v : Option jv) (σ' : Nat → jcell) (n' : Nat), post v σ' n' → ∀ (H1 : Heap) (locs1 : List Loc), jW E cl σ' n' H1 → va_S (jA E) s.heap H1 locs1 → W p l e R s m args below meth c H1 locs1 (cells + rc.cells) (slots + rc.slots) Q (F0 m (pc + 3) ls ((v.map (jc E)).toList ++ r.map (jc E))) := by
    intro v σ' n' hp H1 locs1 hW1 hS1
    have h := kk v σ' n' hp H1 locs1 ls hW1 hS1 hL
    have e1 : (v.toList ++ r).map (jc E) = (v.map (jc E)).toList ++ r.map (jc E) := by cases v <;> simp
    rw [e1] at h
    exact h
  rcases jlm_or hw with h8 | ⟨host, h8⟩
  · refine jk_after (va_runV (C := Y.1.cls) (b := E.2.2.2 + a) (As := vals.map (jc E)) (rest := r.map (jc E)) (Ts := jTA Ts) ⟨hx, hb, hml, ho, hts⟩ hM ⟨callB_of k hts (jws_in h1) rfl rfl rfl (hts _ h2) (hts _ h8) ⟨h3, h4, h5⟩ hf, hts _ hin, hts _ hse⟩ hpre rfl (by rw [List.length_map]; exact hk) hL.1 hstk (lv_room (by rw [jcat_sum]; exact hz)) hd hc) hS hgo
  · refine jk_after (va_runVN (C := Y.1.cls) (b := E.2.2.2 + a) (As := vals.map (jc E)) (rest := r.map (jc E)) (host := host) (Ts := jTA Ts) ⟨hx, hb, hml, ho, hts⟩ hM ⟨va_cnB k hts (jws_in h1) rfl rfl rfl (hK.2.2.2 _ h8) (hts _ h2) ⟨h3, h4, h5⟩ hf, hts _ hin, hts _ hse⟩ hpre rfl (by rw [List.length_map]; exact hk) hL.1 hstk (lv_room (by rw [jcat_sum]; exact hz)) hd hc) hS hgo
/-- a constructor is called -/
theorem jk_callI (X : jX E own Ts cl tb nL ini cc M) {rm rc : Room} (hR : M.2.2.2.1 = rm) {pc i wi k a : Nat} {Y : jY} (hd : decode cc pc = .ok (.invokespecial i, 3)) (hw : jlm Ts wi own i Y.1 = true) (hm : jmth Ts Y k) (hin : Jvm.Cond.instanceMethod Y.1 ∈ jTA Ts) (hnm : Y.1.name = "<init>") (hret : Y.2.2.2 = none) {lv : List (Option jv)} {r vals : List jv} {σ : Nat → jcell} {post : jPo} (hM : jMet M.2.1 E cl tb Ts Y rc (.inr (.inr (some (.inl a))) :: vals) σ n post) {st : List jv} (hs : st = vals.reverse ++ .inr (.inr (some (.inl a))) :: r) (hk : vals.length = k)
    (hf : rc.frames + 1 ≤ rm.frames ∧ 8 + (Y.2.2.1 + 11) + rc.locals ≤ rm.locals) (hc : cells + rc.cells ≤ rm.cells ∧ slots + rc.slots ≤ rm.slots) (hz : (r.map jcat).sum ≤ 8)
    (kk : ∀ (v : Option jv) (σ' : Nat → jcell) (n' : Nat), post v σ' n' → jJ E cl nL M Q n' (cells + rc.cells) (slots + rc.slots) (pc + 3) lv (v.toList ++ r) σ') : jJ E cl nL M Q n cells slots pc lv st σ := by
  subst hs
  obtain ⟨p, l, e, R, s, m, args, below, meth, c⟩ := M
  dsimp only at hR
  subst hR
  obtain ⟨y, bytes, maxL, ret⟩ := Y
  dsimp only at hret hnm
  subst hret
  obtain ⟨hx, hb, hml, ho, hts, hK, -, -⟩ := X
  obtain ⟨h1, h2, h3, h4, h5⟩ := hm
  intro H locs ls hW hS hL
  have hpre : PreS s H (jPc E cl tb Ts (.inr (.inr (some (.inl a))) :: vals) σ n) (.ref (E.2.2.2 + a) :: vals.map (jc E)) := ⟨jPc_blind, fun U hU hWm => ⟨rfl, by rw [hU]; exact hW, jK_go hK hS hU hWm⟩⟩
  have hstk : ((vals.reverse ++ .inr (.inr (some (.inl a))) :: r).map (jc E)) = (vals.map (jc E)).reverse ++ .ref (E.2.2.2 + a) :: r.map (jc E) := by rw [List.map_append, List.map_reverse]; rfl
  have hgo : ∀ (v : Option jv) (σ' : Nat → jcell) (n' : Nat), post v σ' n' → ∀ (H1 : Heap) (locs1 : List Loc), jW E cl σ' n' H1 → va_S (jA E) s.heap H1 locs1 → W p l e R s m args below meth c H1 locs1 (cells + rc.cells) (slots + rc.slots) Q (F0 m (pc + 3) ls ((v.map (jc E)).toList ++ r.map (jc E))) := by
    intro v σ' n' hp H1 locs1 hW1 hS1
    have h := kk v σ' n' hp H1 locs1 ls hW1 hS1 hL
    have e1 : (v.toList ++ r).map (jc E) = (v.map (jc E)).toList ++ r.map (jc E) := by cases v <;> simp
    rw [e1] at h
    exact h
  rcases jlm_or hw with h8 | ⟨host, h8⟩
  · refine jk_after (va_runI (b := E.2.2.2 + a) (As := vals.map (jc E)) (rest := r.map (jc E)) (Ts := jTA Ts) ⟨hx, hb, hml, ho, hts⟩ hM ⟨callB_of k hts (jws_in h1) rfl rfl rfl (hts _ h2) (hts _ h8) ⟨h3, h4, h5⟩ hf, hnm, hts _ hin⟩ hpre rfl (by rw [List.length_map]; exact hk) hL.1 hstk (lv_room (by rw [jcat_sum]; exact hz)) hd hc) hS hgo
  · refine jk_after (va_runIN (b := E.2.2.2 + a) (As := vals.map (jc E)) (rest := r.map (jc E)) (host := host) (Ts := jTA Ts) ⟨hx, hb, hml, ho, hts⟩ hM ⟨va_cnB k hts (jws_in h1) rfl rfl rfl (hK.2.2.2 _ h8) (hts _ h2) ⟨h3, h4, h5⟩ hf, hnm, hts _ hin⟩ hpre rfl (by rw [List.length_map]; exact hk) hL.1 hstk (lv_room (by rw [jcat_sum]; exact hz)) hd hc) hS hgo
/-- Object() -/
theorem jk_objInit (X : jX E own Ts cl tb nL ini cc M) {rm : Room} (hR : M.2.2.2.1 = rm) {pc i w1 w2 w3 : Nat} (hd : decode cc pc = .ok (.invokespecial i, 3)) (h1 : Ts[w1]? = some (Jvm.Cond.methodLink own i Lib.objectInit)) (h2 : Ts[w2]? = some (Jvm.Cond.instanceMethod Lib.objectInit)) (h3 : Ts[w3]? = some (Jvm.Cond.code Lib.objectInit ⟨#[0xb1]⟩ 1 none)) {lv : List (Option jv)} {r : List jv} {σ : Nat → jcell} {a : Nat} (hf : 1 ≤ rm.frames) (hz : (r.map jcat).sum + 12 ≤ rm.locals)
    (kk : jJ E cl nL M Q n cells slots (pc + 3) lv r σ) : jJ E cl nL M Q n cells slots pc lv (.inr (.inr (some (.inl a))) :: r) σ := by
  obtain ⟨p, l, e, R, s, m, args, below, meth, c⟩ := M
  dsimp only at hR
  subst hR
  obtain ⟨hx, hb, hml, ho, hts, hK, -, -⟩ := X
  intro H locs ls hW hS hL
  refine W.objInit hx hb ho (hts _ (jTA_in h1 rfl)) (hts _ (jTA_in h2 rfl)) (hts _ (jTA_in h3 rfl)) rfl (by rw [hml]; exact hL.1) rfl hd hf ?_ (kk H locs ls hW hS hL)
  have e1 : (F0 m pc ls ((Sum.inr (Sum.inr (some (Sum.inl a))) :: r).map (jc E))).monitorRoom = 0 := rfl
  rw [e1, jcat_sum]
  dsimp only at hz ⊢
  omega
def jdef (kd : Nat) : jv := match kd with
  | 2 => .inr (.inl 0)
  | 3 => .inr (.inr none)
  | _ => .inl 0
def jnew (q : vw_C) : List jv := (List.range q.2.2).map fun j => jdef (jkd (parseFieldDescriptor (q.2.1 j).2.2.1))
theorem jdef_ok {E : jE} {t : FieldType} (h : jkd (some t) ≠ 9) : defaultValue t = jc E (jdef (jkd (some t))) := by
  cases t <;> first | rfl | exact absurd rfl h
/-- a new object -/
theorem jk_new (hC : jCl Ts cl) (X : jX E own Ts cl tb nL ini cc M) {rm : Room} (hR : M.2.2.2.1 = rm) {pc i w1 w2 w3 ci : Nat} (hd : decode cc pc = .ok (.new i, 3)) {q : vw_C} (hq : cl[ci]? = some q) (h1 : Ts[w1]? = some (Jvm.Cond.classLink own i q.1)) (h2 : Ts[w2]? = some (Jvm.Cond.instantiable q.1 q.2.2)) (h3 : Ts[w3]? = some (Jvm.Cond.initialized q.1)) (h9 : ((List.range q.2.2).all fun j => decide (jkd (parseFieldDescriptor (q.2.1 j).2.2.1) ≠ 9)) = true) {fs : List jv} (hfs : jnew q = fs) {lv : List (Option jv)} {r : List jv} {σ : Nat → jcell} (hc : cells + 1 ≤ rm.cells ∧ slots + q.2.2 ≤ rm.slots)
    (kk : jJ E cl nL M Q (n + 1) (cells + 1) (slots + q.2.2) (pc + 3) lv (.inr (.inr (some (.inl n))) :: r) (jup σ n (.inr (ci, fs)))) : jJ E cl nL M Q n cells slots pc lv r σ := by
  obtain ⟨p, l, e, R, s, m, args, below, meth, c⟩ := M
  dsimp only at hR
  subst hR
  obtain ⟨hx, hb, hml, ho, hts, hK, -, -⟩ := X
  intro H locs ls hW hS hL
  have hKn := hK.1.1 ci _ hq
  refine W.newcK hx hb ho (hts _ (jTA_in h1 rfl)) (hts _ (jTA_in h2 rfl)) (hts _ (jTA_in h3 rfl)) rfl hd hc.1 hc.2 hKn.2.1 hW.1 fun H1 kC hkC e1 z1 o1 => ?_
  refine kk H1 locs ls ⟨by omega, fun k hk => ?_⟩ ⟨by have h7 := hS.1; have h8 := hW.1; dsimp only at h7 ⊢; omega, fun x q1 q2 => (o1 x (by have h7 := hS.1; have h8 := hW.1; dsimp only at h7 q1; omega)).trans (hS.2.1 x q1 q2), hS.2.2⟩ hL
  by_cases hkn : k = n
  · subst hkn
    rw [jup_s]
    obtain ⟨hin, ⟨ty, hty⟩, hnm⟩ := hC ci q hq
    refine ⟨_, hq, (u_born ty hts hin hKn hkC e1 hty).to fun j hj => ?_⟩
    subst hfs
    have hj9 := List.all_eq_true.mp h9 j (List.mem_range.mpr hj)
    rw [decide_eq_true_eq, hty j hj] at hj9
    rw [jdef_ok (E := E) hj9]
    show _ = vp_V ((jnew q).map (jc E)) j
    simp [vp_V, jnew, hj, hty j hj]
  · rw [jup_n hkn]
    exact (hW.2 k (by omega)).kept (o1 _ (by show E.2.2.2 + k < _; omega))
def jzero (t : ArrayType) (N : Nat) : vp_A := match t with
  | .long => (N, .inr (.inl fun _ => 0))
  | _ => (N, .inl fun _ => 0)
/-- a new array of numbers -/
theorem jk_newa (X : jX E own Ts cl tb nL ini cc M) {rm : Room} (hR : M.2.2.2.1 = rm) {pc w1 N : Nat} {at1 : ArrayType} (hd : decode cc pc = .ok (.newarray at1, 2)) (h1 : Ts[w1]? = some (Jvm.Cond.arrayClass (newarray.typeOf at1))) (hty : newarray.typeOf at1 ∈ jtys) {lv : List (Option jv)} {r : List jv} {σ : Nat → jcell} {k : Int32} (hk : ¬ k < 0) (hN : k.toNatClampNeg = N) (hby : N * 8 ≤ 536870912) (hc : cells + 1 ≤ rm.cells ∧ slots + N ≤ rm.slots)
    (kk : jJ E cl nL M Q (n + 1) (cells + 1) (slots + N) (pc + 2) lv (.inr (.inr (some (.inl n))) :: r) (jup σ n (.inl (newarray.typeOf at1, jzero at1 N)))) : jJ E cl nL M Q n cells slots pc lv (.inl k :: r) σ := by
  obtain ⟨p, l, e, R, s, m, args, below, meth, c⟩ := M
  dsimp only at hR
  subst hR
  obtain ⟨hx, hb, hml, ho, hts, hK, -, -⟩ := X
  intro H locs ls hW hS hL
  have hcb : componentBytes (newarray.typeOf at1) ≤ 8 := by cases at1 <;> decide
  refine va_newaK hx hb (hts _ (jTA_in h1 rfl)) rfl hd rfl hk hN (Nat.le_trans (Nat.mul_le_mul_left _ hcb) hby) hc.1 hc.2 hW.1 fun H1 cA e1 z1 o1 hAr hNm => ?_
  have hcA : cA = E.2.1 (newarray.typeOf at1) := by
    obtain ⟨t0, ht0⟩ := jty_in (E := E) hty
    have h5 := (hK.1.2 t0 _ ht0).2
    have h6 : s.vm.findClass ("[" ++ (newarray.typeOf at1).toString) = some (E.2.1 (newarray.typeOf at1)) := by
      cases at1 <;> exact h5
    exact Option.some.inj (hNm.symm.trans h6)
  refine kk H1 locs ls ⟨by omega, fun j hj => ?_⟩ ⟨by have h7 := hS.1; have h8 := hW.1; dsimp only at h7 ⊢; omega, fun x q1 q2 => (o1 x (by have h7 := hS.1; have h8 := hW.1; dsimp only at h7 q1; omega)).trans (hS.2.1 x q1 q2), hS.2.2⟩ hL
  by_cases hjn : j = n
  · subst hjn
    rw [jup_s]
    show H1[_]? = some (vp_cell (E.2.1 (newarray.typeOf at1)) (jzero at1 N))
    rw [e1, hcA]
    cases at1 <;> first | rfl | exact absurd hty (by decide)
  · rw [jup_n hjn]
    exact (hW.2 j (by omega)).kept (o1 _ (by show E.2.2.2 + j < _; omega))
/-- the ends of a method -/
theorem jk_vret (X : jX E own Ts cl tb nL ini cc M) {pc mc ms : Nat} (hd : decode cc pc = .ok (.return_, 1)) (hr : M.2.2.2.2.2.2.2.2.1.sig.returnType = none) {lv : List (Option jv)} {σ : Nat → jcell} {post : jPo} (hc : cells ≤ mc) (hs : slots ≤ ms) (hp : post none σ n) : jJ E cl nL M (jQ E cl M post mc ms) n cells slots pc lv [] σ := by
  obtain ⟨p, l, e, R, s, m, args, below, meth, c⟩ := M
  obtain ⟨hx, hb, hml, ho, hts, hK, hlk, -⟩ := X
  intro H locs ls hW hS hL
  exact W.widen hc hs (W.vret hx hb hr (fun t ht _ => ⟨⟨none, σ, n, rfl, hp, by rw [ht]; exact hW⟩, hS.F ht⟩) hS.2.2 hd hlk)
theorem jk_iret (X : jX E own Ts cl tb nL ini cc M) {pc mc ms : Nat} (hd : decode cc pc = .ok (.ireturn, 1)) {ty : FieldType} (hr : M.2.2.2.2.2.2.2.2.1.sig.returnType = some ty) {v : Int32} (hn : narrow ty (.int v) = .int v) {lv : List (Option jv)} {σ : Nat → jcell} {post : jPo} (hc : cells ≤ mc) (hs : slots ≤ ms) (hp : post (some (.inl v)) σ n) : jJ E cl nL M (jQ E cl M post mc ms) n cells slots pc lv [.inl v] σ := by
  obtain ⟨p, l, e, R, s, m, args, below, meth, c⟩ := M
  obtain ⟨hx, hb, hml, ho, hts, hK, hlk, -⟩ := X
  intro H locs ls hW hS hL
  exact W.widen hc hs (W.zret hx hb hr hn (fun t ht _ => ⟨⟨some (.inl v), σ, n, rfl, hp, by rw [ht]; exact hW⟩, hS.F ht⟩) hS.2.2 hd hlk)
theorem jk_lret (X : jX E own Ts cl tb nL ini cc M) {pc mc ms : Nat} (hd : decode cc pc = .ok (.lreturn, 1)) (hr : M.2.2.2.2.2.2.2.2.1.sig.returnType = some .long) {v : Int64} {lv : List (Option jv)} {σ : Nat → jcell} {post : jPo} (hc : cells ≤ mc) (hs : slots ≤ ms) (hp : post (some (.inr (.inl v))) σ n) : jJ E cl nL M (jQ E cl M post mc ms) n cells slots pc lv [.inr (.inl v)] σ := by
  obtain ⟨p, l, e, R, s, m, args, below, meth, c⟩ := M
  obtain ⟨hx, hb, hml, ho, hts, hK, hlk, -⟩ := X
  intro H locs ls hW hS hL
  exact W.widen hc hs (W.lret hx hb hr (fun t ht _ => ⟨⟨some (.inr (.inl v)), σ, n, rfl, hp, by rw [ht]; exact hW⟩, hS.F ht⟩) hS.2.2 hd hlk)
/-- weaker is enough -/
theorem jJ_widen {c2 s2 pc : Nat} {lv : List (Option jv)} {st : List jv} {σ : Nat → jcell} (hc : cells ≤ c2) (hs : slots ≤ s2) (h : jJ E cl nL M Q n c2 s2 pc lv st σ) : jJ E cl nL M Q n cells slots pc lv st σ := fun H locs ls hW hS hL => W.widen hc hs (h H locs ls hW hS hL)
/-- locals that nobody needs may be forgotten -/
theorem jJ_lv {pc : Nat} {lv lv' : List (Option jv)} {st : List jv} {σ : Nat → jcell} (hl : ∀ (i : Nat) (v : jv), lv'[i]? = some (some v) → lv[i]? = some (some v)) (h : jJ E cl nL M Q n cells slots pc lv' st σ) : jJ E cl nL M Q n cells slots pc lv st σ := fun H locs ls hW hS hL => h H locs ls hW hS ⟨hL.1, hL.2.1, fun i v hi => hL.2.2 i v (hl i v hi)⟩
end JCA
theorem jMet_post {l : Launch} {E : jE} {cl : List vw_C} {tb : jTb} {Ts : List Jvm.Cond} {Y : jY} {rm : Room} {vals : List jv} {σ : Nat → jcell} {n : Nat} {post post' : jPo} (h : jMet l E cl tb Ts Y rm vals σ n post) (hp : ∀ r σ' n', post r σ' n' → post' r σ' n') : jMet l E cl tb Ts Y rm vals σ n post' := by
  intro p e ha hc hk s m args below hf hs hP hK'
  obtain ⟨n', o, h1, h2, h3, ⟨⟨⟨r, σ', n2, q1, q2, q3⟩, q4⟩, q5⟩⟩ := h p e ha hc hk s m args below hf hs hP hK'
  exact ⟨n', o, h1, h2, h3, ⟨⟨⟨r, σ', n2, q1, hp _ _ _ q2, q3⟩, q4⟩, q5⟩⟩
end
section
/-! shorter rows for calls: an answer that is a number and leaves all as it was; and the general ones with their sums said -/
section JCB
variable {E : jE} {own : String} {Ts : List Jvm.Cond} {cl : List vw_C} {tb : jTb} {nL : Nat} {ini : Bool} {cc : ByteArray} {M : jM} {Q : State → Prop} {n cells slots : Nat}
theorem jk_Si (X : jX E own Ts cl tb nL ini cc M) {rm rc : Room} (hR : M.2.2.2.1 = rm) {pc i wi k : Nat} {Y : jY} (hd : decode cc pc = .ok (.invokestatic i, 3)) (hw : jlm Ts wi own i Y.1 = true) (hm : jmth Ts Y k) (hst : Jvm.Cond.static Y.1 ∈ jTA Ts) {lv : List (Option jv)} {r vals : List jv} {σ : Nat → jcell} {v : Int32} (hM : jMet M.2.1 E cl tb Ts Y rc vals σ n (fun q σ' n' => q = some (.inl v) ∧ σ' = σ ∧ n' = n)) {st : List jv} (hs : st = vals.reverse ++ r) (hk : vals.length = k)
    (hf : rc.frames + 1 ≤ rm.frames ∧ 8 + (Y.2.2.1 + 11) + rc.locals ≤ rm.locals) (h0 : rc.cells = 0 ∧ rc.slots = 0) (hc : cells ≤ rm.cells ∧ slots ≤ rm.slots) (hz : (r.map jcat).sum ≤ 8) {pc' : Nat} (hp : pc + 3 = pc')
    (kk : jJ E cl nL M Q n cells slots pc' lv (.inl v :: r) σ) : jJ E cl nL M Q n cells slots pc lv st σ := by
  refine jk_callS X hR hd hw hm hst hM hs hk hf (by rw [h0.1, h0.2]; exact hc) hz ?_
  rintro _ _ _ ⟨rfl, rfl, rfl⟩
  rw [h0.1, h0.2, hp]
  exact kk
theorem jk_Vi (X : jX E own Ts cl tb nL ini cc M) {rm rc : Room} (hR : M.2.2.2.1 = rm) {pc i wi k ci a : Nat} {Y : jY} (hd : decode cc pc = .ok (.invokevirtual i, 3)) (hw : jlm Ts wi own i Y.1 = true) (hm : jmth Ts Y k) (hin : Jvm.Cond.instanceMethod Y.1 ∈ jTA Ts) (hse : Jvm.Cond.selects Y.1.cls Y.1 Y.1 ∈ jTA Ts) {q : vw_C} (hq : cl[ci]? = some q) (hqc : q.1 = Y.1.cls) {lv : List (Option jv)} {r vals : List jv} {σ : Nat → jcell} {fs : List jv} (ha : a < n) (he : σ a = .inr (ci, fs)) {v : Int32} (hM : jMet M.2.1 E cl tb Ts Y rc (.inr (.inr (some (.inl a))) :: vals) σ n (fun q σ' n' => q = some (.inl v) ∧ σ' = σ ∧ n' = n)) {st : List jv} (hs : st = vals.reverse ++ .inr (.inr (some (.inl a))) :: r) (hk : vals.length = k)
    (hf : rc.frames + 1 ≤ rm.frames ∧ 8 + (Y.2.2.1 + 11) + rc.locals ≤ rm.locals) (h0 : rc.cells = 0 ∧ rc.slots = 0) (hc : cells ≤ rm.cells ∧ slots ≤ rm.slots) (hz : (r.map jcat).sum ≤ 8) {pc' : Nat} (hp : pc + 3 = pc')
    (kk : jJ E cl nL M Q n cells slots pc' lv (.inl v :: r) σ) : jJ E cl nL M Q n cells slots pc lv st σ := by
  refine jk_callV X hR hd hw hm hin hse hq hqc ha he hM hs hk hf (by rw [h0.1, h0.2]; exact hc) hz ?_
  rintro _ _ _ ⟨rfl, rfl, rfl⟩
  rw [h0.1, h0.2, hp]
  exact kk
/-- a call without an answer, or whose answer the post tells -/
theorem jk_Sg (X : jX E own Ts cl tb nL ini cc M) {rm rc : Room} (hR : M.2.2.2.1 = rm) {pc i wi k : Nat} {Y : jY} (hd : decode cc pc = .ok (.invokestatic i, 3)) (hw : jlm Ts wi own i Y.1 = true) (hm : jmth Ts Y k) (hst : Jvm.Cond.static Y.1 ∈ jTA Ts) {lv : List (Option jv)} {r vals : List jv} {σ : Nat → jcell} {post : jPo} (hM : jMet M.2.1 E cl tb Ts Y rc vals σ n post) {st : List jv} (hs : st = vals.reverse ++ r) (hk : vals.length = k)
    (hf : rc.frames + 1 ≤ rm.frames ∧ 8 + (Y.2.2.1 + 11) + rc.locals ≤ rm.locals) {c' s' : Nat} (hc' : cells + rc.cells = c') (hs' : slots + rc.slots = s') (hc : c' ≤ rm.cells ∧ s' ≤ rm.slots) (hz : (r.map jcat).sum ≤ 8) {pc' : Nat} (hp : pc + 3 = pc')
    (kk : ∀ (v : Option jv) (σ' : Nat → jcell) (n' : Nat), post v σ' n' → jJ E cl nL M Q n' c' s' pc' lv (v.toList ++ r) σ') : jJ E cl nL M Q n cells slots pc lv st σ := by
  subst hc'; subst hs'; subst hp
  exact jk_callS X hR hd hw hm hst hM hs hk hf hc hz kk
theorem jk_Vg (X : jX E own Ts cl tb nL ini cc M) {rm rc : Room} (hR : M.2.2.2.1 = rm) {pc i wi k ci a : Nat} {Y : jY} (hd : decode cc pc = .ok (.invokevirtual i, 3)) (hw : jlm Ts wi own i Y.1 = true) (hm : jmth Ts Y k) (hin : Jvm.Cond.instanceMethod Y.1 ∈ jTA Ts) (hse : Jvm.Cond.selects Y.1.cls Y.1 Y.1 ∈ jTA Ts) {q : vw_C} (hq : cl[ci]? = some q) (hqc : q.1 = Y.1.cls) {lv : List (Option jv)} {r vals : List jv} {σ : Nat → jcell} {fs : List jv} (ha : a < n) (he : σ a = .inr (ci, fs)) {post : jPo} (hM : jMet M.2.1 E cl tb Ts Y rc (.inr (.inr (some (.inl a))) :: vals) σ n post) {st : List jv} (hs : st = vals.reverse ++ .inr (.inr (some (.inl a))) :: r) (hk : vals.length = k)
    (hf : rc.frames + 1 ≤ rm.frames ∧ 8 + (Y.2.2.1 + 11) + rc.locals ≤ rm.locals) {c' s' : Nat} (hc' : cells + rc.cells = c') (hs' : slots + rc.slots = s') (hc : c' ≤ rm.cells ∧ s' ≤ rm.slots) (hz : (r.map jcat).sum ≤ 8) {pc' : Nat} (hp : pc + 3 = pc')
    (kk : ∀ (v : Option jv) (σ' : Nat → jcell) (n' : Nat), post v σ' n' → jJ E cl nL M Q n' c' s' pc' lv (v.toList ++ r) σ') : jJ E cl nL M Q n cells slots pc lv st σ := by
  subst hc'; subst hs'; subst hp
  exact jk_callV X hR hd hw hm hin hse hq hqc ha he hM hs hk hf hc hz kk
theorem jk_Ig (X : jX E own Ts cl tb nL ini cc M) {rm rc : Room} (hR : M.2.2.2.1 = rm) {pc i wi k a : Nat} {Y : jY} (hd : decode cc pc = .ok (.invokespecial i, 3)) (hw : jlm Ts wi own i Y.1 = true) (hm : jmth Ts Y k) (hin : Jvm.Cond.instanceMethod Y.1 ∈ jTA Ts) (hnm : Y.1.name = "<init>") (hret : Y.2.2.2 = none) {lv : List (Option jv)} {r vals : List jv} {σ : Nat → jcell} {post : jPo} (hM : jMet M.2.1 E cl tb Ts Y rc (.inr (.inr (some (.inl a))) :: vals) σ n post) {st : List jv} (hs : st = vals.reverse ++ .inr (.inr (some (.inl a))) :: r) (hk : vals.length = k)
    (hf : rc.frames + 1 ≤ rm.frames ∧ 8 + (Y.2.2.1 + 11) + rc.locals ≤ rm.locals) {c' s' : Nat} (hc' : cells + rc.cells = c') (hs' : slots + rc.slots = s') (hc : c' ≤ rm.cells ∧ s' ≤ rm.slots) (hz : (r.map jcat).sum ≤ 8) {pc' : Nat} (hp : pc + 3 = pc')
    (kk : ∀ (v : Option jv) (σ' : Nat → jcell) (n' : Nat), post v σ' n' → jJ E cl nL M Q n' c' s' pc' lv (v.toList ++ r) σ') : jJ E cl nL M Q n cells slots pc lv st σ := by
  subst hc'; subst hs'; subst hp
  exact jk_callI X hR hd hw hm hin hnm hret hM hs hk hf hc hz kk
theorem jk_oi (X : jX E own Ts cl tb nL ini cc M) {rm : Room} (hR : M.2.2.2.1 = rm) {pc i w1 w2 w3 : Nat} (hd : decode cc pc = .ok (.invokespecial i, 3)) (h1 : Ts[w1]? = some (Jvm.Cond.methodLink own i Lib.objectInit)) (h2 : Ts[w2]? = some (Jvm.Cond.instanceMethod Lib.objectInit)) (h3 : Ts[w3]? = some (Jvm.Cond.code Lib.objectInit ⟨#[0xb1]⟩ 1 none)) {lv : List (Option jv)} {r : List jv} {σ : Nat → jcell} {a : Nat} (hf : 1 ≤ rm.frames) (hz : (r.map jcat).sum + 12 ≤ rm.locals) {pc' : Nat} (hp : pc + 3 = pc')
    (kk : jJ E cl nL M Q n cells slots pc' lv r σ) : jJ E cl nL M Q n cells slots pc lv (.inr (.inr (some (.inl a))) :: r) σ := by
  subst hp
  exact jk_objInit X hR hd h1 h2 h3 hf hz kk
theorem jk_nw (hC : jCl Ts cl) (X : jX E own Ts cl tb nL ini cc M) {rm : Room} (hR : M.2.2.2.1 = rm) {pc i w1 w2 w3 ci : Nat} (hd : decode cc pc = .ok (.new i, 3)) {q : vw_C} (hq : cl[ci]? = some q) (h1 : Ts[w1]? = some (Jvm.Cond.classLink own i q.1)) (h2 : Ts[w2]? = some (Jvm.Cond.instantiable q.1 q.2.2)) (h3 : Ts[w3]? = some (Jvm.Cond.initialized q.1)) (h9 : ((List.range q.2.2).all fun j => decide (jkd (parseFieldDescriptor (q.2.1 j).2.2.1) ≠ 9)) = true) {fs : List jv} (hfs : jnew q = fs) {lv : List (Option jv)} {r : List jv} {σ : Nat → jcell} {n' c' s' : Nat} (hn' : n + 1 = n') (hc' : cells + 1 = c') (hs' : slots + q.2.2 = s') (hc : c' ≤ rm.cells ∧ s' ≤ rm.slots) {pc' : Nat} (hp : pc + 3 = pc')
    (kk : jJ E cl nL M Q n' c' s' pc' lv (.inr (.inr (some (.inl n))) :: r) (jup σ n (.inr (ci, fs)))) : jJ E cl nL M Q n cells slots pc lv r σ := by
  subst hn'; subst hc'; subst hs'; subst hp
  exact jk_new hC X hR hd hq h1 h2 h3 h9 hfs hc kk
theorem jk_na (X : jX E own Ts cl tb nL ini cc M) {rm : Room} (hR : M.2.2.2.1 = rm) {pc w1 : Nat} {at1 : ArrayType} (hd : decode cc pc = .ok (.newarray at1, 2)) {ty : FieldType} (hty : newarray.typeOf at1 = ty) (h1 : Ts[w1]? = some (Jvm.Cond.arrayClass ty)) (hin : ty ∈ jtys) {lv : List (Option jv)} {r : List jv} {σ : Nat → jcell} {k : Int32} (hk : ¬ k < 0) (N : Nat) (hN : k.toNatClampNeg = N) (hby : N * 8 ≤ 536870912) {z : vp_A} (hz : jzero at1 N = z) {n' c' s' : Nat} (hn' : n + 1 = n') (hc' : cells + 1 = c') (hs' : slots + N = s') (hc : c' ≤ rm.cells ∧ s' ≤ rm.slots) {pc' : Nat} (hp : pc + 2 = pc')
    (kk : jJ E cl nL M Q n' c' s' pc' lv (.inr (.inr (some (.inl n))) :: r) (jup σ n (.inl (ty, z)))) : jJ E cl nL M Q n cells slots pc lv (.inl k :: r) σ := by
  subst hn'; subst hc'; subst hs'; subst hp; subst hz; subst hty
  exact jk_newa X hR hd h1 hin hk hN hby hc kk
end JCB
end
section
/-! names by program: classes, their fields, tables of constants -/
def F_CH : u_T := fun k => match k with
  | 0 => ("ChessHouse", "tape", "[B", true)
  | 1 => ("ChessHouse", "answers", "LChessHouse$Bytes;", true)
  | 2 => ("ChessHouse", "words", "LChessHouse$Words;", true)
  | 3 => ("ChessHouse", "signs", "LChessHouse$Signs;", true)
  | 4 => ("ChessHouse", "reader", "LChessHouse$GameReader;", true)
  | 5 => ("ChessHouse", "writer", "LChessHouse$GameWriter;", true)
  | 6 => ("ChessHouse", "search", "LChessHouse$Search;", true)
  | 7 => ("ChessHouse", "problems", "LChessHouse$Problems;", true)
  | 8 => ("ChessHouse", "endings", "LChessHouse$Endings;", true)
  | 9 => ("ChessHouse", "list", "[I", true)
  | 10 => ("ChessHouse", "game", "LChessHouse$Game;", false)
  | 11 => ("ChessHouse", "spare", "LChessHouse$Game;", false)
  | 12 => ("ChessHouse", "fed", "I", false)
  | 13 => ("ChessHouse", "next", "I", false)
  | _ => ("ChessHouse", "faults", "I", false)
def F_BY : u_T := fun k => match k with
  | 0 => ("ChessHouse$Bytes", "data", "[B", true)
  | _ => ("ChessHouse$Bytes", "length", "I", false)
def F_WO : u_T := fun k => match k with
  | 0 => ("ChessHouse$Words", "begin", "[I", true)
  | 1 => ("ChessHouse$Words", "count", "I", false)
  | 2 => ("ChessHouse$Words", "stop", "I", false)
  | 3 => ("ChessHouse$Words", "tape", "[B", false)
  | _ => ("ChessHouse$Words", "start", "I", false)
def F_SI : u_T := fun k => match k with
  | 0 => ("ChessHouse$Signs", "list", "[I", true)
  | 1 => ("ChessHouse$Signs", "row", "[I", true)
  | 2 => ("ChessHouse$Signs", "length", "I", false)
  | 3 => ("ChessHouse$Signs", "kind", "I", false)
  | 4 => ("ChessHouse$Signs", "file", "I", false)
  | 5 => ("ChessHouse$Signs", "rank", "I", false)
  | 6 => ("ChessHouse$Signs", "to", "I", false)
  | 7 => ("ChessHouse$Signs", "become", "I", false)
  | 8 => ("ChessHouse$Signs", "castling", "I", false)
  | 9 => ("ChessHouse$Signs", "takes", "Z", false)
  | _ => ("ChessHouse$Signs", "check", "I", false)
def F_GR : u_T := fun k => match k with
  | 0 => ("ChessHouse$GameReader", "place", "I", false)
  | 1 => ("ChessHouse$GameReader", "signs", "LChessHouse$Signs;", true)
  | 2 => ("ChessHouse$GameReader", "outer", "[I", true)
  | 3 => ("ChessHouse$GameReader", "value", "[B", true)
  | 4 => ("ChessHouse$GameReader", "game", "LChessHouse$Game;", false)
  | 5 => ("ChessHouse$GameReader", "text", "[B", false)
  | 6 => ("ChessHouse$GameReader", "begin", "I", false)
  | 7 => ("ChessHouse$GameReader", "stop", "I", false)
  | 8 => ("ChessHouse$GameReader", "at", "I", false)
  | 9 => ("ChessHouse$GameReader", "fault", "I", false)
  | 10 => ("ChessHouse$GameReader", "stage", "I", false)
  | _ => ("ChessHouse$GameReader", "open", "I", false)
def F_GW : u_T := fun k => match k with
  | 0 => ("ChessHouse$GameWriter", "text", "LChessHouse$Bytes;", true)
  | 1 => ("ChessHouse$GameWriter", "signs", "LChessHouse$Signs;", true)
  | _ => ("ChessHouse$GameWriter", "game", "LChessHouse$Game;", false)
def F_SE : u_T := fun k => match k with
  | 0 => ("ChessHouse$Search", "bestMove", "I", false)
  | 1 => ("ChessHouse$Search", "list", "[I", true)
  | 2 => ("ChessHouse$Search", "made", "[I", true)
  | 3 => ("ChessHouse$Search", "undone", "[J", true)
  | 4 => ("ChessHouse$Search", "depth", "I", false)
  | 5 => ("ChessHouse$Search", "board", "LChessHouse$Board;", false)
  | _ => ("ChessHouse$Search", "calm", "Z", false)
def F_PR : u_T := fun k => match k with
  | 0 => ("ChessHouse$Problems", "self", "Z", false)
  | 1 => ("ChessHouse$Problems", "wanted", "I", false)
  | 2 => ("ChessHouse$Problems", "lines", "I", false)
  | 3 => ("ChessHouse$Problems", "found", "Z", false)
  | 4 => ("ChessHouse$Problems", "chain", "[I", true)
  | 5 => ("ChessHouse$Problems", "undo", "[J", true)
  | 6 => ("ChessHouse$Problems", "list", "[I", true)
  | 7 => ("ChessHouse$Problems", "board", "LChessHouse$Board;", false)
  | 8 => ("ChessHouse$Problems", "mate", "Z", false)
  | _ => ("ChessHouse$Problems", "asked", "I", false)
def F_EN : u_T := fun k => match k with
  | 0 => ("ChessHouse$Endings", "distance", "I", false)
  | 1 => ("ChessHouse$Endings", "bestMove", "I", false)
  | 2 => ("ChessHouse$Endings", "list", "[I", true)
  | 3 => ("ChessHouse$Endings", "queens", "[B", false)
  | 4 => ("ChessHouse$Endings", "rooks", "[B", false)
  | 5 => ("ChessHouse$Endings", "pawns", "[B", false)
  | 6 => ("ChessHouse$Endings", "table", "[B", false)
  | 7 => ("ChessHouse$Endings", "queue", "[I", false)
  | 8 => ("ChessHouse$Endings", "tail", "I", false)
  | _ => ("ChessHouse$Endings", "kind", "I", false)
def F_GA : u_T := fun k => match k with
  | 0 => ("ChessHouse$Game", "board", "LChessHouse$Board;", true)
  | 1 => ("ChessHouse$Game", "nodes", "I", false)
  | 2 => ("ChessHouse$Game", "here", "I", false)
  | 3 => ("ChessHouse$Game", "parent", "[I", true)
  | 4 => ("ChessHouse$Game", "move", "[I", true)
  | 5 => ("ChessHouse$Game", "first", "[I", true)
  | 6 => ("ChessHouse$Game", "after", "[I", true)
  | 7 => ("ChessHouse$Game", "undo", "[J", true)
  | 8 => ("ChessHouse$Game", "marks", "[I", true)
  | 9 => ("ChessHouse$Game", "marked", "[I", true)
  | 10 => ("ChessHouse$Game", "remarks", "[B", true)
  | 11 => ("ChessHouse$Game", "remarkLength", "[I", true)
  | 12 => ("ChessHouse$Game", "path", "[I", true)
  | 13 => ("ChessHouse$Game", "tags", "I", false)
  | 14 => ("ChessHouse$Game", "names", "[B", true)
  | 15 => ("ChessHouse$Game", "nameLength", "[I", true)
  | 16 => ("ChessHouse$Game", "values", "[B", true)
  | 17 => ("ChessHouse$Game", "valueLength", "[I", true)
  | _ => ("ChessHouse$Game", "result", "I", false)
def F_BO : u_T := fun k => match k with
  | 0 => ("ChessHouse$Board", "men", "[I", true)
  | 1 => ("ChessHouse$Board", "king", "[I", true)
  | 2 => ("ChessHouse$Board", "side", "I", false)
  | 3 => ("ChessHouse$Board", "rights", "I", false)
  | 4 => ("ChessHouse$Board", "passed", "I", false)
  | 5 => ("ChessHouse$Board", "clock", "I", false)
  | 6 => ("ChessHouse$Board", "number", "I", false)
  | 7 => ("ChessHouse$Board", "packed", "[J", true)
  | 8 => ("ChessHouse$Board", "worth", "[I", true)
  | 9 => ("ChessHouse$Board", "count", "[I", true)
  | 10 => ("ChessHouse$Board", "shades", "[I", true)
  | 11 => ("ChessHouse$Board", "worthAt", "[I", true)
  | 12 => ("ChessHouse$Board", "reach", "[I", true)
  | 13 => ("ChessHouse$Board", "hops", "[I", true)
  | 14 => ("ChessHouse$Board", "past", "[J", true)
  | 15 => ("ChessHouse$Board", "pastRest", "[I", true)
  | _ => ("ChessHouse$Board", "plies", "I", false)
def F_MM : u_T := fun k => match k with
  | 0 => ("ChessHouseModel", "thrown", "I", false)
  | 1 => ("ChessHouseModel", "taped", "I", false)
  | 2 => ("ChessHouseModel", "tape", "[B", true)
  | 3 => ("ChessHouseModel", "told", "I", false)
  | 4 => ("ChessHouseModel", "out", "[B", true)
  | 5 => ("ChessHouseModel", "texts", "LChessHouseModel$Texts;", true)
  | 6 => ("ChessHouseModel", "board", "LChessHouseModel$Board;", true)
  | 7 => ("ChessHouseModel", "endings", "LChessHouseModel$Ends;", false)
  | 8 => ("ChessHouseModel", "from", "I", false)
  | 9 => ("ChessHouseModel", "to", "I", false)
  | 10 => ("ChessHouseModel", "next", "I", false)
  | 11 => ("ChessHouseModel", "all", "I", false)
  | 12 => ("ChessHouseModel", "faults", "I", false)
  | 13 => ("ChessHouseModel", "words", "I", false)
  | 14 => ("ChessHouseModel", "wordFrom", "[I", true)
  | 15 => ("ChessHouseModel", "wordTo", "[I", true)
  | 16 => ("ChessHouseModel", "right", "Z", false)
  | 17 => ("ChessHouseModel", "path", "[I", true)
  | _ => ("ChessHouseModel", "line", "[C", true)
def F_MT : u_T := fun k => match k with
  | 0 => ("ChessHouseModel$Texts", "thrown", "I", false)
  | 1 => ("ChessHouseModel$Texts", "typed", "I", false)
  | 2 => ("ChessHouseModel$Texts", "text", "[C", true)
  | 3 => ("ChessHouseModel$Texts", "told", "I", false)
  | 4 => ("ChessHouseModel$Texts", "out", "[C", true)
  | 5 => ("ChessHouseModel$Texts", "game", "I", false)
  | 6 => ("ChessHouseModel$Texts", "here", "I", false)
  | 7 => ("ChessHouseModel$Texts", "count", "[I", true)
  | 8 => ("ChessHouseModel$Texts", "parent", "[I", true)
  | 9 => ("ChessHouseModel$Texts", "moveOf", "[I", true)
  | 10 => ("ChessHouseModel$Texts", "child", "[I", true)
  | 11 => ("ChessHouseModel$Texts", "next", "[I", true)
  | 12 => ("ChessHouseModel$Texts", "markCount", "[I", true)
  | 13 => ("ChessHouseModel$Texts", "marks", "[I", true)
  | 14 => ("ChessHouseModel$Texts", "remarkSize", "[I", true)
  | 15 => ("ChessHouseModel$Texts", "remarks", "[C", true)
  | 16 => ("ChessHouseModel$Texts", "startMen", "[I", true)
  | 17 => ("ChessHouseModel$Texts", "startRest", "[I", true)
  | 18 => ("ChessHouseModel$Texts", "tagCount", "[I", true)
  | 19 => ("ChessHouseModel$Texts", "nameSize", "[I", true)
  | 20 => ("ChessHouseModel$Texts", "names", "[C", true)
  | 21 => ("ChessHouseModel$Texts", "valueSize", "[I", true)
  | 22 => ("ChessHouseModel$Texts", "values", "[C", true)
  | 23 => ("ChessHouseModel$Texts", "results", "[I", true)
  | 24 => ("ChessHouseModel$Texts", "men", "[I", true)
  | 25 => ("ChessHouseModel$Texts", "side", "I", false)
  | 26 => ("ChessHouseModel$Texts", "rights", "I", false)
  | 27 => ("ChessHouseModel$Texts", "passed", "I", false)
  | 28 => ("ChessHouseModel$Texts", "clock", "I", false)
  | 29 => ("ChessHouseModel$Texts", "number", "I", false)
  | 30 => ("ChessHouseModel$Texts", "keptMen", "[I", true)
  | 31 => ("ChessHouseModel$Texts", "keptRest", "[I", true)
  | 32 => ("ChessHouseModel$Texts", "list", "[I", true)
  | 33 => ("ChessHouseModel$Texts", "moves", "I", false)
  | 34 => ("ChessHouseModel$Texts", "path", "[I", true)
  | 35 => ("ChessHouseModel$Texts", "spelled", "[C", true)
  | 36 => ("ChessHouseModel$Texts", "spelledSize", "I", false)
  | 37 => ("ChessHouseModel$Texts", "at", "I", false)
  | 38 => ("ChessHouseModel$Texts", "valueAt", "I", false)
  | _ => ("ChessHouseModel$Texts", "valueEnd", "I", false)
def F_MB : u_T := fun k => match k with
  | 0 => ("ChessHouseModel$Board", "typed", "I", false)
  | 1 => ("ChessHouseModel$Board", "text", "[C", true)
  | 2 => ("ChessHouseModel$Board", "men", "[I", true)
  | 3 => ("ChessHouseModel$Board", "side", "I", false)
  | 4 => ("ChessHouseModel$Board", "rights", "I", false)
  | 5 => ("ChessHouseModel$Board", "passed", "I", false)
  | 6 => ("ChessHouseModel$Board", "clock", "I", false)
  | 7 => ("ChessHouseModel$Board", "number", "I", false)
  | 8 => ("ChessHouseModel$Board", "plies", "I", false)
  | 9 => ("ChessHouseModel$Board", "pastMen", "[I", true)
  | 10 => ("ChessHouseModel$Board", "pastSide", "[I", true)
  | 11 => ("ChessHouseModel$Board", "pastRights", "[I", true)
  | 12 => ("ChessHouseModel$Board", "pastPassed", "[I", true)
  | 13 => ("ChessHouseModel$Board", "pastClock", "[I", true)
  | 14 => ("ChessHouseModel$Board", "pastNumber", "[I", true)
  | 15 => ("ChessHouseModel$Board", "undoMan", "[I", true)
  | 16 => ("ChessHouseModel$Board", "undoTaken", "[I", true)
  | 17 => ("ChessHouseModel$Board", "undoWhere", "[I", true)
  | 18 => ("ChessHouseModel$Board", "undoRights", "[I", true)
  | 19 => ("ChessHouseModel$Board", "undoPassed", "[I", true)
  | 20 => ("ChessHouseModel$Board", "undoClock", "[I", true)
  | 21 => ("ChessHouseModel$Board", "lists", "[I", true)
  | 22 => ("ChessHouseModel$Board", "counts", "[I", true)
  | 23 => ("ChessHouseModel$Board", "calm", "Z", false)
  | 24 => ("ChessHouseModel$Board", "depth", "I", false)
  | 25 => ("ChessHouseModel$Board", "best", "I", false)
  | 26 => ("ChessHouseModel$Board", "bestValue", "I", false)
  | 27 => ("ChessHouseModel$Board", "lineLength", "I", false)
  | 28 => ("ChessHouseModel$Board", "bestLine", "[I", true)
  | 29 => ("ChessHouseModel$Board", "keyCount", "I", false)
  | 30 => ("ChessHouseModel$Board", "keyMoves", "[I", true)
  | 31 => ("ChessHouseModel$Board", "before", "I", false)
  | 32 => ("ChessHouseModel$Board", "met", "Z", false)
  | 33 => ("ChessHouseModel$Board", "helpLine", "[I", true)
  | 34 => ("ChessHouseModel$Board", "tried", "[I", true)
  | 35 => ("ChessHouseModel$Board", "out", "[C", false)
  | _ => ("ChessHouseModel$Board", "told", "I", false)
def F_ME : u_T := fun k => match k with
  | 0 => ("ChessHouseModel$Ends", "thrown", "I", false)
  | 1 => ("ChessHouseModel$Ends", "files", "I", true)
  | 2 => ("ChessHouseModel$Ends", "ranks", "I", true)
  | 3 => ("ChessHouseModel$Ends", "table", "[J", true)
  | 4 => ("ChessHouseModel$Ends", "built", "[Z", true)
  | 5 => ("ChessHouseModel$Ends", "greatest", "[I", true)
  | 6 => ("ChessHouseModel$Ends", "there", "Z", false)
  | 7 => ("ChessHouseModel$Ends", "kind", "I", false)
  | 8 => ("ChessHouseModel$Ends", "white", "I", false)
  | 9 => ("ChessHouseModel$Ends", "man", "I", false)
  | 10 => ("ChessHouseModel$Ends", "black", "I", false)
  | 11 => ("ChessHouseModel$Ends", "side", "I", false)
  | 12 => ("ChessHouseModel$Ends", "list", "[I", true)
  | _ => ("ChessHouseModel$Ends", "many", "I", false)
def jcl : List vw_C := [("ChessHouse", F_CH, 15), ("ChessHouse$Bytes", F_BY, 2), ("ChessHouse$Words", F_WO, 5), ("ChessHouse$Signs", F_SI, 11), ("ChessHouse$GameReader", F_GR, 12), ("ChessHouse$GameWriter", F_GW, 3), ("ChessHouse$Search", F_SE, 7), ("ChessHouse$Problems", F_PR, 10), ("ChessHouse$Endings", F_EN, 10), ("ChessHouse$Game", F_GA, 19), ("ChessHouse$Board", F_BO, 17), ("ChessHouseModel", F_MM, 19), ("ChessHouseModel$Texts", F_MT, 40), ("ChessHouseModel$Board", F_MB, 37), ("ChessHouseModel$Ends", F_ME, 14)]
def tv_0 : List Int32 := [8, -8, 1, -1, 9, 7, -7, -9]
def tv_1 : List Int32 := [4, 2, 3, 5, 6, 3, 2, 4]
def tv_2 : List Int32 := [0, 1, 2, 3, 4, 5, 6, 7, 8, 9, 10, 11, 12, 13, 14, 15, 16, 17, 18, 19, 20, 21, 22, 23, 24, 25, 26, 27]
def tv_3 : List Int32 := [70, 69, 78]
def tv_4 : List Int32 := [13, 15, 15, 15, 12, 15, 15, 14, 15, 15, 15, 15, 15, 15, 15, 15, 15, 15, 15, 15, 15, 15, 15, 15, 15, 15, 15, 15, 15, 15, 15, 15, 15, 15, 15, 15, 15, 15, 15, 15, 15, 15, 15, 15, 15, 15, 15, 15, 15, 15, 15, 15, 15, 15, 15, 15, 7, 15, 15, 15, 3, 15, 15, 11]
def tv_5 : List Int32 := [82, 101, 115, 117, 108, 116]
def tv_6 : List Int32 := [0, 4, 8, 13, 14, 27, 8, 0]
def tv_7 : List Int32 := [0, 1, 9, 2, 10, 18, 3, 11, 19, 27]
def tv_8 : List Int32 := [8, -8, 1, -1, 9, 7, -7, -9]
def jtb : jTb := fun j => match j with
  | 0 => some ("ChessHouse$Board", "STEPS", "[I", .int, 8, fun i => tv_0.getD i 0)
  | 1 => some ("ChessHouse$Board", "FIRST_RANK", "[I", .int, 8, fun i => tv_1.getD i 0)
  | 2 => some ("ChessHouse$1", "$SwitchMap$ChessHouse$Command", "[I", .int, 28, fun i => tv_2.getD i 0)
  | 3 => some ("ChessHouse$Game", "FEN", "[B", .byte, 3, fun i => tv_3.getD i 0)
  | 4 => some ("ChessHouse$Board", "KEPT", "[I", .int, 64, fun i => tv_4.getD i 0)
  | 5 => some ("ChessHouse$Game", "RESULT", "[B", .byte, 6, fun i => tv_5.getD i 0)
  | 6 => some ("ChessHouse$Board", "FORCES", "[I", .int, 8, fun i => tv_6.getD i 0)
  | 7 => some ("ChessHouse$Endings", "CORNER", "[I", .int, 10, fun i => tv_7.getD i 0)
  | 8 => some ("ChessHouse$Endings", "STEPS", "[I", .int, 8, fun i => tv_8.getD i 0)
  | _ => none
/-- a class's words stand in the tables at these places -/
theorem jcl_of {Ts : List Jvm.Cond} {q : vw_C} (is : List Nat) (h : is.map (fun i => Ts[i]?) = (u_ws q.1 q.2.1 q.2.2).map some) (hg : (u_ws q.1 q.2.1 q.2.2).all jgood = true) : ∀ w ∈ u_ws q.1 q.2.1 q.2.2, w ∈ jTA Ts := by
  intro w hw
  have h1 : some w ∈ is.map (fun i => Ts[i]?) := by rw [h]; exact List.mem_map.mpr ⟨w, hw, rfl⟩
  obtain ⟨i, -, hi⟩ := List.mem_map.mp h1
  exact List.mem_filter.mpr ⟨List.mem_of_getElem? hi, List.all_eq_true.mp hg w hw⟩
theorem cw_CH : ∀ w ∈ u_ws "ChessHouse" F_CH 15, w ∈ jTA lw_tbl := jcl_of (q := ("ChessHouse", F_CH, 15)) [828, 830, 832, 834, 836, 838, 840, 842, 844, 846, 848, 850, 852, 854, 856] (by decide +kernel) (by decide +kernel)
theorem cn_CH : ∀ a, a < 15 → ∀ b, b < 15 → a ≠ b → (F_CH a).2.1 ≠ (F_CH b).2.1 := by decide +kernel
theorem ct_CH : ∀ k, k < 15 → parseFieldDescriptor (F_CH k).2.2.1 = some ((parseFieldDescriptor (F_CH k).2.2.1).getD .int) := by decide +kernel
theorem cw_BY : ∀ w ∈ u_ws "ChessHouse$Bytes" F_BY 2, w ∈ jTA lw_tbl := jcl_of (q := ("ChessHouse$Bytes", F_BY, 2)) [356, 358] (by decide +kernel) (by decide +kernel)
theorem cn_BY : ∀ a, a < 2 → ∀ b, b < 2 → a ≠ b → (F_BY a).2.1 ≠ (F_BY b).2.1 := by decide +kernel
theorem ct_BY : ∀ k, k < 2 → parseFieldDescriptor (F_BY k).2.2.1 = some ((parseFieldDescriptor (F_BY k).2.2.1).getD .int) := by decide +kernel
theorem cw_WO : ∀ w ∈ u_ws "ChessHouse$Words" F_WO 5, w ∈ jTA lw_tbl := jcl_of (q := ("ChessHouse$Words", F_WO, 5)) [376, 378, 380, 382, 384] (by decide +kernel) (by decide +kernel)
theorem cn_WO : ∀ a, a < 5 → ∀ b, b < 5 → a ≠ b → (F_WO a).2.1 ≠ (F_WO b).2.1 := by decide +kernel
theorem ct_WO : ∀ k, k < 5 → parseFieldDescriptor (F_WO k).2.2.1 = some ((parseFieldDescriptor (F_WO k).2.2.1).getD .int) := by decide +kernel
theorem cw_SI : ∀ w ∈ u_ws "ChessHouse$Signs" F_SI 11, w ∈ jTA lw_tbl := jcl_of (q := ("ChessHouse$Signs", F_SI, 11)) [405, 407, 409, 411, 413, 415, 417, 419, 421, 423, 425] (by decide +kernel) (by decide +kernel)
theorem cn_SI : ∀ a, a < 11 → ∀ b, b < 11 → a ≠ b → (F_SI a).2.1 ≠ (F_SI b).2.1 := by decide +kernel
theorem ct_SI : ∀ k, k < 11 → parseFieldDescriptor (F_SI k).2.2.1 = some ((parseFieldDescriptor (F_SI k).2.2.1).getD .int) := by decide +kernel
theorem cw_GR : ∀ w ∈ u_ws "ChessHouse$GameReader" F_GR 12, w ∈ jTA lw_tbl := jcl_of (q := ("ChessHouse$GameReader", F_GR, 12)) [449, 451, 453, 455, 457, 459, 461, 463, 465, 467, 469, 471] (by decide +kernel) (by decide +kernel)
theorem cn_GR : ∀ a, a < 12 → ∀ b, b < 12 → a ≠ b → (F_GR a).2.1 ≠ (F_GR b).2.1 := by decide +kernel
theorem ct_GR : ∀ k, k < 12 → parseFieldDescriptor (F_GR k).2.2.1 = some ((parseFieldDescriptor (F_GR k).2.2.1).getD .int) := by decide +kernel
theorem cw_GW : ∀ w ∈ u_ws "ChessHouse$GameWriter" F_GW 3, w ∈ jTA lw_tbl := jcl_of (q := ("ChessHouse$GameWriter", F_GW, 3)) [488, 490, 492] (by decide +kernel) (by decide +kernel)
theorem cn_GW : ∀ a, a < 3 → ∀ b, b < 3 → a ≠ b → (F_GW a).2.1 ≠ (F_GW b).2.1 := by decide +kernel
theorem ct_GW : ∀ k, k < 3 → parseFieldDescriptor (F_GW k).2.2.1 = some ((parseFieldDescriptor (F_GW k).2.2.1).getD .int) := by decide +kernel
theorem cw_SE : ∀ w ∈ u_ws "ChessHouse$Search" F_SE 7, w ∈ jTA lw_tbl := jcl_of (q := ("ChessHouse$Search", F_SE, 7)) [509, 511, 513, 515, 517, 519, 521] (by decide +kernel) (by decide +kernel)
theorem cn_SE : ∀ a, a < 7 → ∀ b, b < 7 → a ≠ b → (F_SE a).2.1 ≠ (F_SE b).2.1 := by decide +kernel
theorem ct_SE : ∀ k, k < 7 → parseFieldDescriptor (F_SE k).2.2.1 = some ((parseFieldDescriptor (F_SE k).2.2.1).getD .int) := by decide +kernel
theorem cw_PR : ∀ w ∈ u_ws "ChessHouse$Problems" F_PR 10, w ∈ jTA lw_tbl := jcl_of (q := ("ChessHouse$Problems", F_PR, 10)) [547, 549, 551, 553, 555, 557, 559, 561, 563, 565] (by decide +kernel) (by decide +kernel)
theorem cn_PR : ∀ a, a < 10 → ∀ b, b < 10 → a ≠ b → (F_PR a).2.1 ≠ (F_PR b).2.1 := by decide +kernel
theorem ct_PR : ∀ k, k < 10 → parseFieldDescriptor (F_PR k).2.2.1 = some ((parseFieldDescriptor (F_PR k).2.2.1).getD .int) := by decide +kernel
theorem cw_EN : ∀ w ∈ u_ws "ChessHouse$Endings" F_EN 10, w ∈ jTA lw_tbl := jcl_of (q := ("ChessHouse$Endings", F_EN, 10)) [586, 588, 590, 592, 594, 596, 598, 600, 602, 604] (by decide +kernel) (by decide +kernel)
theorem cn_EN : ∀ a, a < 10 → ∀ b, b < 10 → a ≠ b → (F_EN a).2.1 ≠ (F_EN b).2.1 := by decide +kernel
theorem ct_EN : ∀ k, k < 10 → parseFieldDescriptor (F_EN k).2.2.1 = some ((parseFieldDescriptor (F_EN k).2.2.1).getD .int) := by decide +kernel
theorem cw_GA : ∀ w ∈ u_ws "ChessHouse$Game" F_GA 19, w ∈ jTA lw_tbl := jcl_of (q := ("ChessHouse$Game", F_GA, 19)) [774, 776, 778, 780, 782, 784, 786, 788, 790, 792, 794, 796, 798, 800, 802, 804, 806, 808, 810] (by decide +kernel) (by decide +kernel)
theorem cn_GA : ∀ a, a < 19 → ∀ b, b < 19 → a ≠ b → (F_GA a).2.1 ≠ (F_GA b).2.1 := by decide +kernel
theorem ct_GA : ∀ k, k < 19 → parseFieldDescriptor (F_GA k).2.2.1 = some ((parseFieldDescriptor (F_GA k).2.2.1).getD .int) := by decide +kernel
theorem cw_BO : ∀ w ∈ u_ws "ChessHouse$Board" F_BO 17, w ∈ jTA lw_tbl := jcl_of (q := ("ChessHouse$Board", F_BO, 17)) [686, 688, 690, 692, 694, 696, 698, 700, 702, 704, 706, 708, 710, 712, 714, 716, 718] (by decide +kernel) (by decide +kernel)
theorem cn_BO : ∀ a, a < 17 → ∀ b, b < 17 → a ≠ b → (F_BO a).2.1 ≠ (F_BO b).2.1 := by decide +kernel
theorem ct_BO : ∀ k, k < 17 → parseFieldDescriptor (F_BO k).2.2.1 = some ((parseFieldDescriptor (F_BO k).2.2.1).getD .int) := by decide +kernel
theorem cw_MM : ∀ w ∈ u_ws "ChessHouseModel" F_MM 19, w ∈ jTA lw_tbl := jcl_of (q := ("ChessHouseModel", F_MM, 19)) [2321, 2323, 2325, 2327, 2329, 2331, 2333, 2335, 2337, 2339, 2341, 2343, 2345, 2347, 2349, 2351, 2353, 2355, 2357] (by decide +kernel) (by decide +kernel)
theorem cn_MM : ∀ a, a < 19 → ∀ b, b < 19 → a ≠ b → (F_MM a).2.1 ≠ (F_MM b).2.1 := by decide +kernel
theorem ct_MM : ∀ k, k < 19 → parseFieldDescriptor (F_MM k).2.2.1 = some ((parseFieldDescriptor (F_MM k).2.2.1).getD .int) := by decide +kernel
theorem cw_MT : ∀ w ∈ u_ws "ChessHouseModel$Texts" F_MT 40, w ∈ jTA lw_tbl := jcl_of (q := ("ChessHouseModel$Texts", F_MT, 40)) [2081, 2083, 2085, 2087, 2089, 2091, 2093, 2095, 2097, 2099, 2101, 2103, 2105, 2107, 2109, 2111, 2113, 2115, 2117, 2119, 2121, 2123, 2125, 2127, 2129, 2131, 2133, 2135, 2137, 2139, 2141, 2143, 2145, 2147, 2149, 2151, 2153, 2155, 2157, 2159] (by decide +kernel) (by decide +kernel)
theorem cn_MT : ∀ a, a < 40 → ∀ b, b < 40 → a ≠ b → (F_MT a).2.1 ≠ (F_MT b).2.1 := by decide +kernel
theorem ct_MT : ∀ k, k < 40 → parseFieldDescriptor (F_MT k).2.2.1 = some ((parseFieldDescriptor (F_MT k).2.2.1).getD .int) := by decide +kernel
theorem cw_MB : ∀ w ∈ u_ws "ChessHouseModel$Board" F_MB 37, w ∈ jTA lw_tbl := jcl_of (q := ("ChessHouseModel$Board", F_MB, 37)) [2226, 2228, 2230, 2232, 2234, 2236, 2238, 2240, 2242, 2244, 2246, 2248, 2250, 2252, 2254, 2256, 2258, 2260, 2262, 2264, 2266, 2268, 2270, 2272, 2274, 2276, 2278, 2280, 2282, 2284, 2286, 2288, 2290, 2292, 2294, 2296, 2298] (by decide +kernel) (by decide +kernel)
theorem cn_MB : ∀ a, a < 37 → ∀ b, b < 37 → a ≠ b → (F_MB a).2.1 ≠ (F_MB b).2.1 := by decide +kernel
theorem ct_MB : ∀ k, k < 37 → parseFieldDescriptor (F_MB k).2.2.1 = some ((parseFieldDescriptor (F_MB k).2.2.1).getD .int) := by decide +kernel
theorem cw_ME : ∀ w ∈ u_ws "ChessHouseModel$Ends" F_ME 14, w ∈ jTA lw_tbl := jcl_of (q := ("ChessHouseModel$Ends", F_ME, 14)) [3067, 3069, 3071, 3073, 3075, 3077, 3079, 3081, 3083, 3085, 3087, 3089, 3091, 3093] (by decide +kernel) (by decide +kernel)
theorem cn_ME : ∀ a, a < 14 → ∀ b, b < 14 → a ≠ b → (F_ME a).2.1 ≠ (F_ME b).2.1 := by decide +kernel
theorem ct_ME : ∀ k, k < 14 → parseFieldDescriptor (F_ME k).2.2.1 = some ((parseFieldDescriptor (F_ME k).2.2.1).getD .int) := by decide +kernel
theorem jC : jCl lw_tbl jcl := by
  intro ci q h
  match ci, h with
  | 0, h => obtain rfl := Option.some.inj h; exact ⟨cw_CH, ⟨_, ct_CH⟩, cn_CH⟩
  | 1, h => obtain rfl := Option.some.inj h; exact ⟨cw_BY, ⟨_, ct_BY⟩, cn_BY⟩
  | 2, h => obtain rfl := Option.some.inj h; exact ⟨cw_WO, ⟨_, ct_WO⟩, cn_WO⟩
  | 3, h => obtain rfl := Option.some.inj h; exact ⟨cw_SI, ⟨_, ct_SI⟩, cn_SI⟩
  | 4, h => obtain rfl := Option.some.inj h; exact ⟨cw_GR, ⟨_, ct_GR⟩, cn_GR⟩
  | 5, h => obtain rfl := Option.some.inj h; exact ⟨cw_GW, ⟨_, ct_GW⟩, cn_GW⟩
  | 6, h => obtain rfl := Option.some.inj h; exact ⟨cw_SE, ⟨_, ct_SE⟩, cn_SE⟩
  | 7, h => obtain rfl := Option.some.inj h; exact ⟨cw_PR, ⟨_, ct_PR⟩, cn_PR⟩
  | 8, h => obtain rfl := Option.some.inj h; exact ⟨cw_EN, ⟨_, ct_EN⟩, cn_EN⟩
  | 9, h => obtain rfl := Option.some.inj h; exact ⟨cw_GA, ⟨_, ct_GA⟩, cn_GA⟩
  | 10, h => obtain rfl := Option.some.inj h; exact ⟨cw_BO, ⟨_, ct_BO⟩, cn_BO⟩
  | 11, h => obtain rfl := Option.some.inj h; exact ⟨cw_MM, ⟨_, ct_MM⟩, cn_MM⟩
  | 12, h => obtain rfl := Option.some.inj h; exact ⟨cw_MT, ⟨_, ct_MT⟩, cn_MT⟩
  | 13, h => obtain rfl := Option.some.inj h; exact ⟨cw_MB, ⟨_, ct_MB⟩, cn_MB⟩
  | 14, h => obtain rfl := Option.some.inj h; exact ⟨cw_ME, ⟨_, ct_ME⟩, cn_ME⟩
  | n + 15, h => exact absurd h (by simp [jcl])
end
section
def y_AR_rangeCheck : jY := (⟨"java/util/Arrays", "rangeCheck", "(III)V"⟩, prog_32_method_30_code, 3, none)
theorem m_AR_rangeCheck : jmth lw_tbl y_AR_rangeCheck 3 := ⟨jTA_in (wi := 633) (by decide +kernel) rfl, jTA_in (wi := 313) (by decide +kernel) rfl, by decide, by decide, by decide +kernel⟩
theorem s_AR_rangeCheck : Jvm.Cond.static y_AR_rangeCheck.1 ∈ jTA lw_tbl := jTA_in (wi := 632) (by decide +kernel) rfl
def kk_AR_rangeCheck_0 : List jI := [(.iload_n 1, 1, (1, 0, 0, 0, 0)), (.iload_n 2, 1, (2, 0, 0, 0, 0)), (.if_icmp .le 44, 3, (46, 0, 0, 0, 0)), (.new 43, 3, (0, 0, 0, 0, 0)), (.dup, 1, (0, 0, 0, 0, 0)), (.new 45, 3, (0, 0, 0, 0, 0)), (.dup, 1, (0, 0, 0, 0, 0)), (.invokespecial 47, 3, (0, 0, 0, 0, 0))]
theorem oo_AR_rangeCheck_0 : jokL "java/util/Arrays" lw_tbl jcl jtb 3 false prog_32_method_30_code 0 kk_AR_rangeCheck_0 = true := by decide +kernel
def kk_AR_rangeCheck_18 : List jI := [(.invokevirtual 50, 3, (0, 0, 0, 0, 0)), (.iload_n 1, 1, (1, 0, 0, 0, 0)), (.invokevirtual 54, 3, (0, 0, 0, 0, 0))]
theorem oo_AR_rangeCheck_18 : jokL "java/util/Arrays" lw_tbl jcl jtb 3 false prog_32_method_30_code 18 kk_AR_rangeCheck_18 = true := by decide +kernel
def kk_AR_rangeCheck_27 : List jI := [(.invokevirtual 50, 3, (0, 0, 0, 0, 0)), (.iload_n 2, 1, (2, 0, 0, 0, 0)), (.invokevirtual 54, 3, (0, 0, 0, 0, 0))]
theorem oo_AR_rangeCheck_27 : jokL "java/util/Arrays" lw_tbl jcl jtb 3 false prog_32_method_30_code 27 kk_AR_rangeCheck_27 = true := by decide +kernel
def kk_AR_rangeCheck_36 : List jI := [(.invokevirtual 50, 3, (0, 0, 0, 0, 0)), (.invokevirtual 61, 3, (0, 0, 0, 0, 0)), (.invokespecial 65, 3, (0, 0, 0, 0, 0)), (.athrow, 1, (0, 0, 0, 0, 0)), (.iload_n 1, 1, (1, 0, 0, 0, 0)), (.ifCond .ge 12, 3, (59, 0, 0, 0, 0)), (.new 68, 3, (0, 0, 0, 0, 0)), (.dup, 1, (0, 0, 0, 0, 0)), (.iload_n 1, 1, (1, 0, 0, 0, 0)), (.invokespecial 70, 3, (0, 0, 0, 0, 0)), (.athrow, 1, (0, 0, 0, 0, 0)), (.iload_n 2, 1, (2, 0, 0, 0, 0)), (.iload_n 0, 1, (0, 0, 0, 0, 0)), (.if_icmp .le 12, 3, (73, 0, 0, 0, 0)), (.new 68, 3, (0, 0, 0, 0, 0)), (.dup, 1, (0, 0, 0, 0, 0)), (.iload_n 2, 1, (2, 0, 0, 0, 0)), (.invokespecial 70, 3, (0, 0, 0, 0, 0)), (.athrow, 1, (0, 0, 0, 0, 0)), (.return_, 1, (0, 0, 0, 0, 0))]
theorem oo_AR_rangeCheck_36 : jokL "java/util/Arrays" lw_tbl jcl jtb 3 false prog_32_method_30_code 36 kk_AR_rangeCheck_36 = true := by decide +kernel
def k_AR_rangeCheck_0 : List jI := [(.iload_n 1, 1, (1, 0, 0, 0, 0)), (.iload_n 2, 1, (2, 0, 0, 0, 0)), (.if_icmp .le 44, 3, (46, 0, 0, 0, 0))]
theorem o_AR_rangeCheck_0 : jokL "java/util/Arrays" lw_tbl jcl jtb 3 false prog_32_method_30_code 0 k_AR_rangeCheck_0 = true := jok_sub oo_AR_rangeCheck_0 0 3 rfl rfl
def k_AR_rangeCheck_8 : List jI := [(.dup, 1, (0, 0, 0, 0, 0))]
theorem o_AR_rangeCheck_8 : jokL "java/util/Arrays" lw_tbl jcl jtb 3 false prog_32_method_30_code 8 k_AR_rangeCheck_8 = true := jok_sub oo_AR_rangeCheck_0 4 1 rfl rfl
def k_AR_rangeCheck_12 : List jI := [(.dup, 1, (0, 0, 0, 0, 0))]
theorem o_AR_rangeCheck_12 : jokL "java/util/Arrays" lw_tbl jcl jtb 3 false prog_32_method_30_code 12 k_AR_rangeCheck_12 = true := jok_sub oo_AR_rangeCheck_0 6 1 rfl rfl
def k_AR_rangeCheck_21 : List jI := [(.iload_n 1, 1, (1, 0, 0, 0, 0))]
theorem o_AR_rangeCheck_21 : jokL "java/util/Arrays" lw_tbl jcl jtb 3 false prog_32_method_30_code 21 k_AR_rangeCheck_21 = true := jok_sub oo_AR_rangeCheck_18 1 1 rfl rfl
def k_AR_rangeCheck_30 : List jI := [(.iload_n 2, 1, (2, 0, 0, 0, 0))]
theorem o_AR_rangeCheck_30 : jokL "java/util/Arrays" lw_tbl jcl jtb 3 false prog_32_method_30_code 30 k_AR_rangeCheck_30 = true := jok_sub oo_AR_rangeCheck_27 1 1 rfl rfl
def k_AR_rangeCheck_46 : List jI := [(.iload_n 1, 1, (1, 0, 0, 0, 0)), (.ifCond .ge 12, 3, (59, 0, 0, 0, 0))]
theorem o_AR_rangeCheck_46 : jokL "java/util/Arrays" lw_tbl jcl jtb 3 false prog_32_method_30_code 46 k_AR_rangeCheck_46 = true := jok_sub oo_AR_rangeCheck_36 4 2 rfl rfl
def k_AR_rangeCheck_53 : List jI := [(.dup, 1, (0, 0, 0, 0, 0)), (.iload_n 1, 1, (1, 0, 0, 0, 0))]
theorem o_AR_rangeCheck_53 : jokL "java/util/Arrays" lw_tbl jcl jtb 3 false prog_32_method_30_code 53 k_AR_rangeCheck_53 = true := jok_sub oo_AR_rangeCheck_36 7 2 rfl rfl
def k_AR_rangeCheck_59 : List jI := [(.iload_n 2, 1, (2, 0, 0, 0, 0)), (.iload_n 0, 1, (0, 0, 0, 0, 0)), (.if_icmp .le 12, 3, (73, 0, 0, 0, 0))]
theorem o_AR_rangeCheck_59 : jokL "java/util/Arrays" lw_tbl jcl jtb 3 false prog_32_method_30_code 59 k_AR_rangeCheck_59 = true := jok_sub oo_AR_rangeCheck_36 11 3 rfl rfl
def k_AR_rangeCheck_67 : List jI := [(.dup, 1, (0, 0, 0, 0, 0)), (.iload_n 2, 1, (2, 0, 0, 0, 0))]
theorem o_AR_rangeCheck_67 : jokL "java/util/Arrays" lw_tbl jcl jtb 3 false prog_32_method_30_code 67 k_AR_rangeCheck_67 = true := jok_sub oo_AR_rangeCheck_36 15 2 rfl rfl
theorem d_AR_rangeCheck_5 : decode prog_32_method_30_code 5 = .ok (.new 43, 3) := by decide +kernel
theorem d_AR_rangeCheck_9 : decode prog_32_method_30_code 9 = .ok (.new 45, 3) := by decide +kernel
theorem d_AR_rangeCheck_13 : decode prog_32_method_30_code 13 = .ok (.invokespecial 47, 3) := by decide +kernel
theorem d_AR_rangeCheck_18 : decode prog_32_method_30_code 18 = .ok (.invokevirtual 50, 3) := by decide +kernel
theorem d_AR_rangeCheck_22 : decode prog_32_method_30_code 22 = .ok (.invokevirtual 54, 3) := by decide +kernel
theorem d_AR_rangeCheck_27 : decode prog_32_method_30_code 27 = .ok (.invokevirtual 50, 3) := by decide +kernel
theorem d_AR_rangeCheck_31 : decode prog_32_method_30_code 31 = .ok (.invokevirtual 54, 3) := by decide +kernel
theorem d_AR_rangeCheck_36 : decode prog_32_method_30_code 36 = .ok (.invokevirtual 50, 3) := by decide +kernel
theorem d_AR_rangeCheck_39 : decode prog_32_method_30_code 39 = .ok (.invokevirtual 61, 3) := by decide +kernel
theorem d_AR_rangeCheck_42 : decode prog_32_method_30_code 42 = .ok (.invokespecial 65, 3) := by decide +kernel
theorem d_AR_rangeCheck_45 : decode prog_32_method_30_code 45 = .ok (.athrow, 1) := by decide +kernel
theorem d_AR_rangeCheck_50 : decode prog_32_method_30_code 50 = .ok (.new 68, 3) := by decide +kernel
theorem d_AR_rangeCheck_55 : decode prog_32_method_30_code 55 = .ok (.invokespecial 70, 3) := by decide +kernel
theorem d_AR_rangeCheck_58 : decode prog_32_method_30_code 58 = .ok (.athrow, 1) := by decide +kernel
theorem d_AR_rangeCheck_64 : decode prog_32_method_30_code 64 = .ok (.new 68, 3) := by decide +kernel
theorem d_AR_rangeCheck_69 : decode prog_32_method_30_code 69 = .ok (.invokespecial 70, 3) := by decide +kernel
theorem d_AR_rangeCheck_72 : decode prog_32_method_30_code 72 = .ok (.athrow, 1) := by decide +kernel
theorem d_AR_rangeCheck_73 : decode prog_32_method_30_code 73 = .ok (.return_, 1) := by decide +kernel
def y_AR_fill2 : jY := (⟨"java/util/Arrays", "fill", "([II)V"⟩, prog_32_method_103_code, 4, none)
theorem m_AR_fill2 : jmth lw_tbl y_AR_fill2 2 := ⟨jTA_in (wi := 650) (by decide +kernel) rfl, jTA_in (wi := 313) (by decide +kernel) rfl, by decide, by decide, by decide +kernel⟩
theorem s_AR_fill2 : Jvm.Cond.static y_AR_fill2.1 ∈ jTA lw_tbl := jTA_in (wi := 649) (by decide +kernel) rfl
def kk_AR_fill2_0 : List jI := [(.iconst 0, 1, (0, 0, 0, 0, 0)), (.istore_n 2, 1, (2, 0, 0, 0, 0)), (.aload_n 0, 1, (0, 0, 0, 0, 0)), (.arraylength, 1, (0, 0, 0, 0, 0)), (.istore_n 3, 1, (3, 0, 0, 0, 0)), (.iload_n 2, 1, (2, 0, 0, 0, 0)), (.iload_n 3, 1, (3, 0, 0, 0, 0)), (.if_icmp .ge 13, 3, (20, 0, 0, 0, 0)), (.aload_n 0, 1, (0, 0, 0, 0, 0)), (.iload_n 2, 1, (2, 0, 0, 0, 0)), (.iload_n 1, 1, (1, 0, 0, 0, 0)), (.iastore, 1, (0, 0, 0, 0, 0)), (.iinc 2 1, 3, (0, 0, 0, 1, 0)), (.goto (-12), 3, (5, 0, 0, 0, 0)), (.return_, 1, (0, 0, 0, 0, 0))]
theorem oo_AR_fill2_0 : jokL "java/util/Arrays" lw_tbl jcl jtb 4 false prog_32_method_103_code 0 kk_AR_fill2_0 = true := by decide +kernel
def k_AR_fill2_0 : List jI := [(.iconst 0, 1, (0, 0, 0, 0, 0)), (.istore_n 2, 1, (2, 0, 0, 0, 0)), (.aload_n 0, 1, (0, 0, 0, 0, 0)), (.arraylength, 1, (0, 0, 0, 0, 0)), (.istore_n 3, 1, (3, 0, 0, 0, 0))]
theorem o_AR_fill2_0 : jokL "java/util/Arrays" lw_tbl jcl jtb 4 false prog_32_method_103_code 0 k_AR_fill2_0 = true := jok_sub oo_AR_fill2_0 0 5 rfl rfl
def k_AR_fill2_5 : List jI := [(.iload_n 2, 1, (2, 0, 0, 0, 0)), (.iload_n 3, 1, (3, 0, 0, 0, 0)), (.if_icmp .ge 13, 3, (20, 0, 0, 0, 0)), (.aload_n 0, 1, (0, 0, 0, 0, 0)), (.iload_n 2, 1, (2, 0, 0, 0, 0)), (.iload_n 1, 1, (1, 0, 0, 0, 0)), (.iastore, 1, (0, 0, 0, 0, 0)), (.iinc 2 1, 3, (0, 0, 0, 1, 0)), (.goto (-12), 3, (5, 0, 0, 0, 0))]
theorem o_AR_fill2_5 : jokL "java/util/Arrays" lw_tbl jcl jtb 4 false prog_32_method_103_code 5 k_AR_fill2_5 = true := jok_sub oo_AR_fill2_0 5 9 rfl rfl
theorem d_AR_fill2_20 : decode prog_32_method_103_code 20 = .ok (.return_, 1) := by decide +kernel
def y_AR_fill3 : jY := (⟨"java/util/Arrays", "fill", "([JJ)V"⟩, prog_32_method_101_code, 5, none)
theorem m_AR_fill3 : jmth lw_tbl y_AR_fill3 2 := ⟨jTA_in (wi := 653) (by decide +kernel) rfl, jTA_in (wi := 313) (by decide +kernel) rfl, by decide, by decide, by decide +kernel⟩
theorem s_AR_fill3 : Jvm.Cond.static y_AR_fill3.1 ∈ jTA lw_tbl := jTA_in (wi := 652) (by decide +kernel) rfl
def kk_AR_fill3_0 : List jI := [(.iconst 0, 1, (0, 0, 0, 0, 0)), (.istore_n 3, 1, (3, 0, 0, 0, 0)), (.aload_n 0, 1, (0, 0, 0, 0, 0)), (.arraylength, 1, (0, 0, 0, 0, 0)), (.istore 4, 2, (4, 0, 0, 0, 0)), (.iload_n 3, 1, (3, 0, 0, 0, 0)), (.iload 4, 2, (4, 0, 0, 0, 0)), (.if_icmp .ge 13, 3, (22, 0, 0, 0, 0)), (.aload_n 0, 1, (0, 0, 0, 0, 0)), (.iload_n 3, 1, (3, 0, 0, 0, 0)), (.lload_n 1, 1, (1, 0, 0, 0, 0)), (.lastore, 1, (0, 0, 0, 0, 0)), (.iinc 3 1, 3, (0, 0, 0, 1, 0)), (.goto (-13), 3, (6, 0, 0, 0, 0)), (.return_, 1, (0, 0, 0, 0, 0))]
theorem oo_AR_fill3_0 : jokL "java/util/Arrays" lw_tbl jcl jtb 5 false prog_32_method_101_code 0 kk_AR_fill3_0 = true := by decide +kernel
def k_AR_fill3_0 : List jI := [(.iconst 0, 1, (0, 0, 0, 0, 0)), (.istore_n 3, 1, (3, 0, 0, 0, 0)), (.aload_n 0, 1, (0, 0, 0, 0, 0)), (.arraylength, 1, (0, 0, 0, 0, 0)), (.istore 4, 2, (4, 0, 0, 0, 0))]
theorem o_AR_fill3_0 : jokL "java/util/Arrays" lw_tbl jcl jtb 5 false prog_32_method_101_code 0 k_AR_fill3_0 = true := jok_sub oo_AR_fill3_0 0 5 rfl rfl
def k_AR_fill3_6 : List jI := [(.iload_n 3, 1, (3, 0, 0, 0, 0)), (.iload 4, 2, (4, 0, 0, 0, 0)), (.if_icmp .ge 13, 3, (22, 0, 0, 0, 0)), (.aload_n 0, 1, (0, 0, 0, 0, 0)), (.iload_n 3, 1, (3, 0, 0, 0, 0)), (.lload_n 1, 1, (1, 0, 0, 0, 0)), (.lastore, 1, (0, 0, 0, 0, 0)), (.iinc 3 1, 3, (0, 0, 0, 1, 0)), (.goto (-13), 3, (6, 0, 0, 0, 0))]
theorem o_AR_fill3_6 : jokL "java/util/Arrays" lw_tbl jcl jtb 5 false prog_32_method_101_code 6 k_AR_fill3_6 = true := jok_sub oo_AR_fill3_0 5 9 rfl rfl
theorem d_AR_fill3_22 : decode prog_32_method_101_code 22 = .ok (.return_, 1) := by decide +kernel
def y_AR_fill : jY := (⟨"java/util/Arrays", "fill", "([IIII)V"⟩, prog_32_method_104_code, 5, none)
theorem m_AR_fill : jmth lw_tbl y_AR_fill 4 := ⟨jTA_in (wi := 630) (by decide +kernel) rfl, jTA_in (wi := 313) (by decide +kernel) rfl, by decide, by decide, by decide +kernel⟩
theorem s_AR_fill : Jvm.Cond.static y_AR_fill.1 ∈ jTA lw_tbl := jTA_in (wi := 629) (by decide +kernel) rfl
def kk_AR_fill_0 : List jI := [(.aload_n 0, 1, (0, 0, 0, 0, 0)), (.arraylength, 1, (0, 0, 0, 0, 0)), (.iload_n 1, 1, (1, 0, 0, 0, 0)), (.iload_n 2, 1, (2, 0, 0, 0, 0)), (.invokestatic 13, 3, (0, 0, 0, 0, 0)), (.iload_n 1, 1, (1, 0, 0, 0, 0)), (.istore 4, 2, (4, 0, 0, 0, 0)), (.iload 4, 2, (4, 0, 0, 0, 0)), (.iload_n 2, 1, (2, 0, 0, 0, 0)), (.if_icmp .ge 14, 3, (27, 0, 0, 0, 0)), (.aload_n 0, 1, (0, 0, 0, 0, 0)), (.iload 4, 2, (4, 0, 0, 0, 0)), (.iload_n 3, 1, (3, 0, 0, 0, 0)), (.iastore, 1, (0, 0, 0, 0, 0)), (.iinc 4 1, 3, (0, 0, 0, 1, 0)), (.goto (-14), 3, (10, 0, 0, 0, 0)), (.return_, 1, (0, 0, 0, 0, 0))]
theorem oo_AR_fill_0 : jokL "java/util/Arrays" lw_tbl jcl jtb 5 false prog_32_method_104_code 0 kk_AR_fill_0 = true := by decide +kernel
def k_AR_fill_0 : List jI := [(.aload_n 0, 1, (0, 0, 0, 0, 0)), (.arraylength, 1, (0, 0, 0, 0, 0)), (.iload_n 1, 1, (1, 0, 0, 0, 0)), (.iload_n 2, 1, (2, 0, 0, 0, 0))]
theorem o_AR_fill_0 : jokL "java/util/Arrays" lw_tbl jcl jtb 5 false prog_32_method_104_code 0 k_AR_fill_0 = true := jok_sub oo_AR_fill_0 0 4 rfl rfl
def k_AR_fill_7 : List jI := [(.iload_n 1, 1, (1, 0, 0, 0, 0)), (.istore 4, 2, (4, 0, 0, 0, 0))]
theorem o_AR_fill_7 : jokL "java/util/Arrays" lw_tbl jcl jtb 5 false prog_32_method_104_code 7 k_AR_fill_7 = true := jok_sub oo_AR_fill_0 5 2 rfl rfl
def k_AR_fill_10 : List jI := [(.iload 4, 2, (4, 0, 0, 0, 0)), (.iload_n 2, 1, (2, 0, 0, 0, 0)), (.if_icmp .ge 14, 3, (27, 0, 0, 0, 0)), (.aload_n 0, 1, (0, 0, 0, 0, 0)), (.iload 4, 2, (4, 0, 0, 0, 0)), (.iload_n 3, 1, (3, 0, 0, 0, 0)), (.iastore, 1, (0, 0, 0, 0, 0)), (.iinc 4 1, 3, (0, 0, 0, 1, 0)), (.goto (-14), 3, (10, 0, 0, 0, 0))]
theorem o_AR_fill_10 : jokL "java/util/Arrays" lw_tbl jcl jtb 5 false prog_32_method_104_code 10 k_AR_fill_10 = true := jok_sub oo_AR_fill_0 7 9 rfl rfl
theorem d_AR_fill_4 : decode prog_32_method_104_code 4 = .ok (.invokestatic 13, 3) := by decide +kernel
theorem q_AR_fill_4 : jlm lw_tbl 631 "java/util/Arrays" 13 ⟨"java/util/Arrays", "rangeCheck", "(III)V"⟩ = true := by decide +kernel
theorem d_AR_fill_27 : decode prog_32_method_104_code 27 = .ok (.return_, 1) := by decide +kernel
def y_BY_init : jY := (⟨"ChessHouse$Bytes", "<init>", "(I)V"⟩, prog_4_method_1_code, 2, none)
theorem m_BY_init : jmth lw_tbl y_BY_init 1 := ⟨jTA_in (wi := 348) (by decide +kernel) rfl, jTA_in (wi := 303) (by decide +kernel) rfl, by decide, by decide, by decide +kernel⟩
theorem i_BY_init : Jvm.Cond.instanceMethod y_BY_init.1 ∈ jTA lw_tbl := jTA_in (wi := 347) (by decide +kernel) rfl
def kk_BY_init_0 : List jI := [(.aload_n 0, 1, (0, 0, 0, 0, 0)), (.invokespecial 3, 3, (0, 0, 0, 0, 0)), (.aload_n 0, 1, (0, 0, 0, 0, 0)), (.iload_n 1, 1, (1, 0, 0, 0, 0)), (.newarray .byte, 2, (0, 0, 0, 0, 0)), (.putfield 9, 3, (1, 0, 350, 3, 0)), (.return_, 1, (0, 0, 0, 0, 0))]
theorem oo_BY_init_0 : jokL "ChessHouse$Bytes" lw_tbl jcl jtb 2 true prog_4_method_1_code 0 kk_BY_init_0 = true := by decide +kernel
def k_BY_init_0 : List jI := [(.aload_n 0, 1, (0, 0, 0, 0, 0))]
theorem o_BY_init_0 : jokL "ChessHouse$Bytes" lw_tbl jcl jtb 2 true prog_4_method_1_code 0 k_BY_init_0 = true := jok_sub oo_BY_init_0 0 1 rfl rfl
def k_BY_init_4 : List jI := [(.aload_n 0, 1, (0, 0, 0, 0, 0)), (.iload_n 1, 1, (1, 0, 0, 0, 0))]
theorem o_BY_init_4 : jokL "ChessHouse$Bytes" lw_tbl jcl jtb 2 true prog_4_method_1_code 4 k_BY_init_4 = true := jok_sub oo_BY_init_0 2 2 rfl rfl
def k_BY_init_8 : List jI := [(.putfield 9, 3, (1, 0, 350, 3, 0))]
theorem o_BY_init_8 : jokL "ChessHouse$Bytes" lw_tbl jcl jtb 2 true prog_4_method_1_code 8 k_BY_init_8 = true := jok_sub oo_BY_init_0 5 1 rfl rfl
theorem d_BY_init_1 : decode prog_4_method_1_code 1 = .ok (.invokespecial 3, 3) := by decide +kernel
theorem d_BY_init_6 : decode prog_4_method_1_code 6 = .ok (.newarray .byte, 2) := by decide +kernel
theorem d_BY_init_11 : decode prog_4_method_1_code 11 = .ok (.return_, 1) := by decide +kernel
def y_BY_clear : jY := (⟨"ChessHouse$Bytes", "clear", "()V"⟩, prog_4_method_2_code, 1, none)
theorem m_BY_clear : jmth lw_tbl y_BY_clear 0 := ⟨jTA_in (wi := 964) (by decide +kernel) rfl, jTA_in (wi := 303) (by decide +kernel) rfl, by decide, by decide, by decide +kernel⟩
theorem i_BY_clear : Jvm.Cond.instanceMethod y_BY_clear.1 ∈ jTA lw_tbl := jTA_in (wi := 962) (by decide +kernel) rfl
theorem e_BY_clear : Jvm.Cond.selects y_BY_clear.1.cls y_BY_clear.1 y_BY_clear.1 ∈ jTA lw_tbl := jTA_in (wi := 963) (by decide +kernel) rfl
def kk_BY_clear_0 : List jI := [(.aload_n 0, 1, (0, 0, 0, 0, 0)), (.iconst 0, 1, (0, 0, 0, 0, 0)), (.putfield 15, 3, (1, 1, 353, 0, 0)), (.return_, 1, (0, 0, 0, 0, 0))]
theorem oo_BY_clear_0 : jokL "ChessHouse$Bytes" lw_tbl jcl jtb 1 false prog_4_method_2_code 0 kk_BY_clear_0 = true := by decide +kernel
def k_BY_clear_0 : List jI := [(.aload_n 0, 1, (0, 0, 0, 0, 0)), (.iconst 0, 1, (0, 0, 0, 0, 0)), (.putfield 15, 3, (1, 1, 353, 0, 0))]
theorem o_BY_clear_0 : jokL "ChessHouse$Bytes" lw_tbl jcl jtb 1 false prog_4_method_2_code 0 k_BY_clear_0 = true := jok_sub oo_BY_clear_0 0 3 rfl rfl
theorem d_BY_clear_5 : decode prog_4_method_2_code 5 = .ok (.return_, 1) := by decide +kernel
def y_WO_init : jY := (⟨"ChessHouse$Words", "<init>", "()V"⟩, prog_13_method_1_code, 1, none)
theorem m_WO_init : jmth lw_tbl y_WO_init 0 := ⟨jTA_in (wi := 366) (by decide +kernel) rfl, jTA_in (wi := 304) (by decide +kernel) rfl, by decide, by decide, by decide +kernel⟩
theorem i_WO_init : Jvm.Cond.instanceMethod y_WO_init.1 ∈ jTA lw_tbl := jTA_in (wi := 365) (by decide +kernel) rfl
def kk_WO_init_0 : List jI := [(.aload_n 0, 1, (0, 0, 0, 0, 0)), (.invokespecial 1, 3, (0, 0, 0, 0, 0)), (.aload_n 0, 1, (0, 0, 0, 0, 0)), (.bipush 8, 2, (0, 0, 0, 8, 0)), (.newarray .int, 2, (0, 0, 0, 0, 0)), (.putfield 7, 3, (2, 0, 368, 3, 0)), (.return_, 1, (0, 0, 0, 0, 0))]
theorem oo_WO_init_0 : jokL "ChessHouse$Words" lw_tbl jcl jtb 1 true prog_13_method_1_code 0 kk_WO_init_0 = true := by decide +kernel
def k_WO_init_0 : List jI := [(.aload_n 0, 1, (0, 0, 0, 0, 0))]
theorem o_WO_init_0 : jokL "ChessHouse$Words" lw_tbl jcl jtb 1 true prog_13_method_1_code 0 k_WO_init_0 = true := jok_sub oo_WO_init_0 0 1 rfl rfl
def k_WO_init_4 : List jI := [(.aload_n 0, 1, (0, 0, 0, 0, 0)), (.bipush 8, 2, (0, 0, 0, 8, 0))]
theorem o_WO_init_4 : jokL "ChessHouse$Words" lw_tbl jcl jtb 1 true prog_13_method_1_code 4 k_WO_init_4 = true := jok_sub oo_WO_init_0 2 2 rfl rfl
def k_WO_init_9 : List jI := [(.putfield 7, 3, (2, 0, 368, 3, 0))]
theorem o_WO_init_9 : jokL "ChessHouse$Words" lw_tbl jcl jtb 1 true prog_13_method_1_code 9 k_WO_init_9 = true := jok_sub oo_WO_init_0 5 1 rfl rfl
theorem d_WO_init_1 : decode prog_13_method_1_code 1 = .ok (.invokespecial 1, 3) := by decide +kernel
theorem d_WO_init_7 : decode prog_13_method_1_code 7 = .ok (.newarray .int, 2) := by decide +kernel
theorem d_WO_init_12 : decode prog_13_method_1_code 12 = .ok (.return_, 1) := by decide +kernel
def y_SI_init : jY := (⟨"ChessHouse$Signs", "<init>", "()V"⟩, prog_12_method_1_code, 1, none)
theorem m_SI_init : jmth lw_tbl y_SI_init 0 := ⟨jTA_in (wi := 392) (by decide +kernel) rfl, jTA_in (wi := 305) (by decide +kernel) rfl, by decide, by decide, by decide +kernel⟩
theorem i_SI_init : Jvm.Cond.instanceMethod y_SI_init.1 ∈ jTA lw_tbl := jTA_in (wi := 391) (by decide +kernel) rfl
def kk_SI_init_0 : List jI := [(.aload_n 0, 1, (0, 0, 0, 0, 0)), (.invokespecial 1, 3, (0, 0, 0, 0, 0)), (.aload_n 0, 1, (0, 0, 0, 0, 0)), (.sipush 3456, 3, (0, 0, 0, 3456, 0)), (.newarray .int, 2, (0, 0, 0, 0, 0)), (.putfield 9, 3, (3, 0, 394, 3, 0)), (.aload_n 0, 1, (0, 0, 0, 0, 0)), (.bipush 7, 2, (0, 0, 0, 7, 0)), (.newarray .int, 2, (0, 0, 0, 0, 0)), (.putfield 15, 3, (3, 1, 395, 3, 0)), (.return_, 1, (0, 0, 0, 0, 0))]
theorem oo_SI_init_0 : jokL "ChessHouse$Signs" lw_tbl jcl jtb 1 true prog_12_method_1_code 0 kk_SI_init_0 = true := by decide +kernel
def k_SI_init_0 : List jI := [(.aload_n 0, 1, (0, 0, 0, 0, 0))]
theorem o_SI_init_0 : jokL "ChessHouse$Signs" lw_tbl jcl jtb 1 true prog_12_method_1_code 0 k_SI_init_0 = true := jok_sub oo_SI_init_0 0 1 rfl rfl
def k_SI_init_4 : List jI := [(.aload_n 0, 1, (0, 0, 0, 0, 0)), (.sipush 3456, 3, (0, 0, 0, 3456, 0))]
theorem o_SI_init_4 : jokL "ChessHouse$Signs" lw_tbl jcl jtb 1 true prog_12_method_1_code 4 k_SI_init_4 = true := jok_sub oo_SI_init_0 2 2 rfl rfl
def k_SI_init_10 : List jI := [(.putfield 9, 3, (3, 0, 394, 3, 0)), (.aload_n 0, 1, (0, 0, 0, 0, 0)), (.bipush 7, 2, (0, 0, 0, 7, 0))]
theorem o_SI_init_10 : jokL "ChessHouse$Signs" lw_tbl jcl jtb 1 true prog_12_method_1_code 10 k_SI_init_10 = true := jok_sub oo_SI_init_0 5 3 rfl rfl
def k_SI_init_18 : List jI := [(.putfield 15, 3, (3, 1, 395, 3, 0))]
theorem o_SI_init_18 : jokL "ChessHouse$Signs" lw_tbl jcl jtb 1 true prog_12_method_1_code 18 k_SI_init_18 = true := jok_sub oo_SI_init_0 9 1 rfl rfl
theorem d_SI_init_1 : decode prog_12_method_1_code 1 = .ok (.invokespecial 1, 3) := by decide +kernel
theorem d_SI_init_8 : decode prog_12_method_1_code 8 = .ok (.newarray .int, 2) := by decide +kernel
theorem d_SI_init_16 : decode prog_12_method_1_code 16 = .ok (.newarray .int, 2) := by decide +kernel
theorem d_SI_init_21 : decode prog_12_method_1_code 21 = .ok (.return_, 1) := by decide +kernel
def y_GR_init : jY := (⟨"ChessHouse$GameReader", "<init>", "()V"⟩, prog_8_method_1_code, 1, none)
theorem m_GR_init : jmth lw_tbl y_GR_init 0 := ⟨jTA_in (wi := 432) (by decide +kernel) rfl, jTA_in (wi := 306) (by decide +kernel) rfl, by decide, by decide, by decide +kernel⟩
theorem i_GR_init : Jvm.Cond.instanceMethod y_GR_init.1 ∈ jTA lw_tbl := jTA_in (wi := 431) (by decide +kernel) rfl
def kk_GR_init_0 : List jI := [(.aload_n 0, 1, (0, 0, 0, 0, 0)), (.invokespecial 3, 3, (0, 0, 0, 0, 0)), (.aload_n 0, 1, (0, 0, 0, 0, 0)), (.new 9, 3, (0, 0, 0, 0, 0)), (.dup, 1, (0, 0, 0, 0, 0)), (.invokespecial 11, 3, (0, 0, 0, 0, 0)), (.putfield 12, 3, (4, 1, 438, 3, 0)), (.aload_n 0, 1, (0, 0, 0, 0, 0)), (.bipush 6, 2, (0, 0, 0, 6, 0)), (.newarray .int, 2, (0, 0, 0, 0, 0)), (.putfield 20, 3, (4, 2, 439, 3, 0)), (.aload_n 0, 1, (0, 0, 0, 0, 0)), (.bipush 96, 2, (0, 0, 0, 96, 0)), (.newarray .byte, 2, (0, 0, 0, 0, 0)), (.putfield 24, 3, (4, 3, 440, 3, 0)), (.return_, 1, (0, 0, 0, 0, 0))]
theorem oo_GR_init_0 : jokL "ChessHouse$GameReader" lw_tbl jcl jtb 1 true prog_8_method_1_code 0 kk_GR_init_0 = true := by decide +kernel
def k_GR_init_0 : List jI := [(.aload_n 0, 1, (0, 0, 0, 0, 0))]
theorem o_GR_init_0 : jokL "ChessHouse$GameReader" lw_tbl jcl jtb 1 true prog_8_method_1_code 0 k_GR_init_0 = true := jok_sub oo_GR_init_0 0 1 rfl rfl
def k_GR_init_4 : List jI := [(.aload_n 0, 1, (0, 0, 0, 0, 0))]
theorem o_GR_init_4 : jokL "ChessHouse$GameReader" lw_tbl jcl jtb 1 true prog_8_method_1_code 4 k_GR_init_4 = true := jok_sub oo_GR_init_0 2 1 rfl rfl
def k_GR_init_8 : List jI := [(.dup, 1, (0, 0, 0, 0, 0))]
theorem o_GR_init_8 : jokL "ChessHouse$GameReader" lw_tbl jcl jtb 1 true prog_8_method_1_code 8 k_GR_init_8 = true := jok_sub oo_GR_init_0 4 1 rfl rfl
def k_GR_init_12 : List jI := [(.putfield 12, 3, (4, 1, 438, 3, 0)), (.aload_n 0, 1, (0, 0, 0, 0, 0)), (.bipush 6, 2, (0, 0, 0, 6, 0))]
theorem o_GR_init_12 : jokL "ChessHouse$GameReader" lw_tbl jcl jtb 1 true prog_8_method_1_code 12 k_GR_init_12 = true := jok_sub oo_GR_init_0 6 3 rfl rfl
def k_GR_init_20 : List jI := [(.putfield 20, 3, (4, 2, 439, 3, 0)), (.aload_n 0, 1, (0, 0, 0, 0, 0)), (.bipush 96, 2, (0, 0, 0, 96, 0))]
theorem o_GR_init_20 : jokL "ChessHouse$GameReader" lw_tbl jcl jtb 1 true prog_8_method_1_code 20 k_GR_init_20 = true := jok_sub oo_GR_init_0 10 3 rfl rfl
def k_GR_init_28 : List jI := [(.putfield 24, 3, (4, 3, 440, 3, 0))]
theorem o_GR_init_28 : jokL "ChessHouse$GameReader" lw_tbl jcl jtb 1 true prog_8_method_1_code 28 k_GR_init_28 = true := jok_sub oo_GR_init_0 14 1 rfl rfl
theorem d_GR_init_1 : decode prog_8_method_1_code 1 = .ok (.invokespecial 3, 3) := by decide +kernel
theorem d_GR_init_5 : decode prog_8_method_1_code 5 = .ok (.new 9, 3) := by decide +kernel
theorem d_GR_init_9 : decode prog_8_method_1_code 9 = .ok (.invokespecial 11, 3) := by decide +kernel
theorem q_GR_init_9 : jlm lw_tbl 435 "ChessHouse$GameReader" 11 ⟨"ChessHouse$Signs", "<init>", "()V"⟩ = true := by decide +kernel
theorem d_GR_init_18 : decode prog_8_method_1_code 18 = .ok (.newarray .int, 2) := by decide +kernel
theorem d_GR_init_26 : decode prog_8_method_1_code 26 = .ok (.newarray .byte, 2) := by decide +kernel
theorem d_GR_init_31 : decode prog_8_method_1_code 31 = .ok (.return_, 1) := by decide +kernel
def y_GW_init : jY := (⟨"ChessHouse$GameWriter", "<init>", "()V"⟩, prog_9_method_1_code, 1, none)
theorem m_GW_init : jmth lw_tbl y_GW_init 0 := ⟨jTA_in (wi := 478) (by decide +kernel) rfl, jTA_in (wi := 307) (by decide +kernel) rfl, by decide, by decide, by decide +kernel⟩
theorem i_GW_init : Jvm.Cond.instanceMethod y_GW_init.1 ∈ jTA lw_tbl := jTA_in (wi := 477) (by decide +kernel) rfl
def kk_GW_init_0 : List jI := [(.aload_n 0, 1, (0, 0, 0, 0, 0)), (.invokespecial 3, 3, (0, 0, 0, 0, 0)), (.aload_n 0, 1, (0, 0, 0, 0, 0)), (.new 9, 3, (0, 0, 0, 0, 0)), (.dup, 1, (0, 0, 0, 0, 0)), (.ldc 11, 2, (0, 0, 481, 131072, 0)), (.invokespecial 12, 3, (0, 0, 0, 0, 0)), (.putfield 15, 3, (5, 0, 485, 3, 0)), (.aload_n 0, 1, (0, 0, 0, 0, 0)), (.new 21, 3, (0, 0, 0, 0, 0)), (.dup, 1, (0, 0, 0, 0, 0)), (.invokespecial 23, 3, (0, 0, 0, 0, 0)), (.putfield 24, 3, (5, 1, 486, 3, 0)), (.return_, 1, (0, 0, 0, 0, 0))]
theorem oo_GW_init_0 : jokL "ChessHouse$GameWriter" lw_tbl jcl jtb 1 true prog_9_method_1_code 0 kk_GW_init_0 = true := by decide +kernel
def k_GW_init_0 : List jI := [(.aload_n 0, 1, (0, 0, 0, 0, 0))]
theorem o_GW_init_0 : jokL "ChessHouse$GameWriter" lw_tbl jcl jtb 1 true prog_9_method_1_code 0 k_GW_init_0 = true := jok_sub oo_GW_init_0 0 1 rfl rfl
def k_GW_init_4 : List jI := [(.aload_n 0, 1, (0, 0, 0, 0, 0))]
theorem o_GW_init_4 : jokL "ChessHouse$GameWriter" lw_tbl jcl jtb 1 true prog_9_method_1_code 4 k_GW_init_4 = true := jok_sub oo_GW_init_0 2 1 rfl rfl
def k_GW_init_8 : List jI := [(.dup, 1, (0, 0, 0, 0, 0)), (.ldc 11, 2, (0, 0, 481, 131072, 0))]
theorem o_GW_init_8 : jokL "ChessHouse$GameWriter" lw_tbl jcl jtb 1 true prog_9_method_1_code 8 k_GW_init_8 = true := jok_sub oo_GW_init_0 4 2 rfl rfl
def k_GW_init_14 : List jI := [(.putfield 15, 3, (5, 0, 485, 3, 0)), (.aload_n 0, 1, (0, 0, 0, 0, 0))]
theorem o_GW_init_14 : jokL "ChessHouse$GameWriter" lw_tbl jcl jtb 1 true prog_9_method_1_code 14 k_GW_init_14 = true := jok_sub oo_GW_init_0 7 2 rfl rfl
def k_GW_init_21 : List jI := [(.dup, 1, (0, 0, 0, 0, 0))]
theorem o_GW_init_21 : jokL "ChessHouse$GameWriter" lw_tbl jcl jtb 1 true prog_9_method_1_code 21 k_GW_init_21 = true := jok_sub oo_GW_init_0 10 1 rfl rfl
def k_GW_init_25 : List jI := [(.putfield 24, 3, (5, 1, 486, 3, 0))]
theorem o_GW_init_25 : jokL "ChessHouse$GameWriter" lw_tbl jcl jtb 1 true prog_9_method_1_code 25 k_GW_init_25 = true := jok_sub oo_GW_init_0 12 1 rfl rfl
theorem d_GW_init_1 : decode prog_9_method_1_code 1 = .ok (.invokespecial 3, 3) := by decide +kernel
theorem d_GW_init_5 : decode prog_9_method_1_code 5 = .ok (.new 9, 3) := by decide +kernel
theorem d_GW_init_11 : decode prog_9_method_1_code 11 = .ok (.invokespecial 12, 3) := by decide +kernel
theorem q_GW_init_11 : jlm lw_tbl 482 "ChessHouse$GameWriter" 12 ⟨"ChessHouse$Bytes", "<init>", "(I)V"⟩ = true := by decide +kernel
theorem d_GW_init_18 : decode prog_9_method_1_code 18 = .ok (.new 21, 3) := by decide +kernel
theorem d_GW_init_22 : decode prog_9_method_1_code 22 = .ok (.invokespecial 23, 3) := by decide +kernel
theorem q_GW_init_22 : jlm lw_tbl 484 "ChessHouse$GameWriter" 23 ⟨"ChessHouse$Signs", "<init>", "()V"⟩ = true := by decide +kernel
theorem d_GW_init_28 : decode prog_9_method_1_code 28 = .ok (.return_, 1) := by decide +kernel
def y_SE_init : jY := (⟨"ChessHouse$Search", "<init>", "()V"⟩, prog_11_method_1_code, 1, none)
theorem m_SE_init : jmth lw_tbl y_SE_init 0 := ⟨jTA_in (wi := 499) (by decide +kernel) rfl, jTA_in (wi := 308) (by decide +kernel) rfl, by decide, by decide, by decide +kernel⟩
theorem i_SE_init : Jvm.Cond.instanceMethod y_SE_init.1 ∈ jTA lw_tbl := jTA_in (wi := 498) (by decide +kernel) rfl
def kk_SE_init_0 : List jI := [(.aload_n 0, 1, (0, 0, 0, 0, 0)), (.invokespecial 1, 3, (0, 0, 0, 0, 0)), (.aload_n 0, 1, (0, 0, 0, 0, 0)), (.sipush 20736, 3, (0, 0, 0, 20736, 0)), (.newarray .int, 2, (0, 0, 0, 0, 0)), (.putfield 9, 3, (6, 1, 503, 3, 0)), (.aload_n 0, 1, (0, 0, 0, 0, 0)), (.bipush 8, 2, (0, 0, 0, 8, 0)), (.newarray .int, 2, (0, 0, 0, 0, 0)), (.putfield 15, 3, (6, 2, 504, 3, 0)), (.aload_n 0, 1, (0, 0, 0, 0, 0)), (.bipush 8, 2, (0, 0, 0, 8, 0)), (.newarray .long, 2, (0, 0, 0, 0, 0)), (.putfield 18, 3, (6, 3, 505, 3, 0)), (.return_, 1, (0, 0, 0, 0, 0))]
theorem oo_SE_init_0 : jokL "ChessHouse$Search" lw_tbl jcl jtb 1 true prog_11_method_1_code 0 kk_SE_init_0 = true := by decide +kernel
def k_SE_init_0 : List jI := [(.aload_n 0, 1, (0, 0, 0, 0, 0))]
theorem o_SE_init_0 : jokL "ChessHouse$Search" lw_tbl jcl jtb 1 true prog_11_method_1_code 0 k_SE_init_0 = true := jok_sub oo_SE_init_0 0 1 rfl rfl
def k_SE_init_4 : List jI := [(.aload_n 0, 1, (0, 0, 0, 0, 0)), (.sipush 20736, 3, (0, 0, 0, 20736, 0))]
theorem o_SE_init_4 : jokL "ChessHouse$Search" lw_tbl jcl jtb 1 true prog_11_method_1_code 4 k_SE_init_4 = true := jok_sub oo_SE_init_0 2 2 rfl rfl
def k_SE_init_10 : List jI := [(.putfield 9, 3, (6, 1, 503, 3, 0)), (.aload_n 0, 1, (0, 0, 0, 0, 0)), (.bipush 8, 2, (0, 0, 0, 8, 0))]
theorem o_SE_init_10 : jokL "ChessHouse$Search" lw_tbl jcl jtb 1 true prog_11_method_1_code 10 k_SE_init_10 = true := jok_sub oo_SE_init_0 5 3 rfl rfl
def k_SE_init_18 : List jI := [(.putfield 15, 3, (6, 2, 504, 3, 0)), (.aload_n 0, 1, (0, 0, 0, 0, 0)), (.bipush 8, 2, (0, 0, 0, 8, 0))]
theorem o_SE_init_18 : jokL "ChessHouse$Search" lw_tbl jcl jtb 1 true prog_11_method_1_code 18 k_SE_init_18 = true := jok_sub oo_SE_init_0 9 3 rfl rfl
def k_SE_init_26 : List jI := [(.putfield 18, 3, (6, 3, 505, 3, 0))]
theorem o_SE_init_26 : jokL "ChessHouse$Search" lw_tbl jcl jtb 1 true prog_11_method_1_code 26 k_SE_init_26 = true := jok_sub oo_SE_init_0 13 1 rfl rfl
theorem d_SE_init_1 : decode prog_11_method_1_code 1 = .ok (.invokespecial 1, 3) := by decide +kernel
theorem d_SE_init_8 : decode prog_11_method_1_code 8 = .ok (.newarray .int, 2) := by decide +kernel
theorem d_SE_init_16 : decode prog_11_method_1_code 16 = .ok (.newarray .int, 2) := by decide +kernel
theorem d_SE_init_24 : decode prog_11_method_1_code 24 = .ok (.newarray .long, 2) := by decide +kernel
theorem d_SE_init_29 : decode prog_11_method_1_code 29 = .ok (.return_, 1) := by decide +kernel
def y_PR_init : jY := (⟨"ChessHouse$Problems", "<init>", "()V"⟩, prog_10_method_1_code, 1, none)
theorem m_PR_init : jmth lw_tbl y_PR_init 0 := ⟨jTA_in (wi := 529) (by decide +kernel) rfl, jTA_in (wi := 309) (by decide +kernel) rfl, by decide, by decide, by decide +kernel⟩
theorem i_PR_init : Jvm.Cond.instanceMethod y_PR_init.1 ∈ jTA lw_tbl := jTA_in (wi := 528) (by decide +kernel) rfl
def kk_PR_init_0 : List jI := [(.aload_n 0, 1, (0, 0, 0, 0, 0)), (.invokespecial 1, 3, (0, 0, 0, 0, 0)), (.aload_n 0, 1, (0, 0, 0, 0, 0)), (.iconst 4, 1, (0, 0, 0, 4, 0)), (.newarray .int, 2, (0, 0, 0, 0, 0)), (.putfield 7, 3, (7, 4, 539, 3, 0)), (.aload_n 0, 1, (0, 0, 0, 0, 0)), (.iconst 4, 1, (0, 0, 0, 4, 0)), (.newarray .long, 2, (0, 0, 0, 0, 0)), (.putfield 13, 3, (7, 5, 541, 3, 0)), (.aload_n 0, 1, (0, 0, 0, 0, 0)), (.sipush 13824, 3, (0, 0, 0, 13824, 0)), (.newarray .int, 2, (0, 0, 0, 0, 0)), (.putfield 19, 3, (7, 6, 543, 3, 0)), (.return_, 1, (0, 0, 0, 0, 0))]
theorem oo_PR_init_0 : jokL "ChessHouse$Problems" lw_tbl jcl jtb 1 true prog_10_method_1_code 0 kk_PR_init_0 = true := by decide +kernel
def k_PR_init_0 : List jI := [(.aload_n 0, 1, (0, 0, 0, 0, 0))]
theorem o_PR_init_0 : jokL "ChessHouse$Problems" lw_tbl jcl jtb 1 true prog_10_method_1_code 0 k_PR_init_0 = true := jok_sub oo_PR_init_0 0 1 rfl rfl
def k_PR_init_4 : List jI := [(.aload_n 0, 1, (0, 0, 0, 0, 0)), (.iconst 4, 1, (0, 0, 0, 4, 0))]
theorem o_PR_init_4 : jokL "ChessHouse$Problems" lw_tbl jcl jtb 1 true prog_10_method_1_code 4 k_PR_init_4 = true := jok_sub oo_PR_init_0 2 2 rfl rfl
def k_PR_init_8 : List jI := [(.putfield 7, 3, (7, 4, 539, 3, 0)), (.aload_n 0, 1, (0, 0, 0, 0, 0)), (.iconst 4, 1, (0, 0, 0, 4, 0))]
theorem o_PR_init_8 : jokL "ChessHouse$Problems" lw_tbl jcl jtb 1 true prog_10_method_1_code 8 k_PR_init_8 = true := jok_sub oo_PR_init_0 5 3 rfl rfl
def k_PR_init_15 : List jI := [(.putfield 13, 3, (7, 5, 541, 3, 0)), (.aload_n 0, 1, (0, 0, 0, 0, 0)), (.sipush 13824, 3, (0, 0, 0, 13824, 0))]
theorem o_PR_init_15 : jokL "ChessHouse$Problems" lw_tbl jcl jtb 1 true prog_10_method_1_code 15 k_PR_init_15 = true := jok_sub oo_PR_init_0 9 3 rfl rfl
def k_PR_init_24 : List jI := [(.putfield 19, 3, (7, 6, 543, 3, 0))]
theorem o_PR_init_24 : jokL "ChessHouse$Problems" lw_tbl jcl jtb 1 true prog_10_method_1_code 24 k_PR_init_24 = true := jok_sub oo_PR_init_0 13 1 rfl rfl
theorem d_PR_init_1 : decode prog_10_method_1_code 1 = .ok (.invokespecial 1, 3) := by decide +kernel
theorem d_PR_init_6 : decode prog_10_method_1_code 6 = .ok (.newarray .int, 2) := by decide +kernel
theorem d_PR_init_13 : decode prog_10_method_1_code 13 = .ok (.newarray .long, 2) := by decide +kernel
theorem d_PR_init_22 : decode prog_10_method_1_code 22 = .ok (.newarray .int, 2) := by decide +kernel
theorem d_PR_init_27 : decode prog_10_method_1_code 27 = .ok (.return_, 1) := by decide +kernel
def y_EN_init : jY := (⟨"ChessHouse$Endings", "<init>", "()V"⟩, prog_6_method_1_code, 1, none)
theorem m_EN_init : jmth lw_tbl y_EN_init 0 := ⟨jTA_in (wi := 572) (by decide +kernel) rfl, jTA_in (wi := 310) (by decide +kernel) rfl, by decide, by decide, by decide +kernel⟩
theorem i_EN_init : Jvm.Cond.instanceMethod y_EN_init.1 ∈ jTA lw_tbl := jTA_in (wi := 571) (by decide +kernel) rfl
def kk_EN_init_0 : List jI := [(.aload_n 0, 1, (0, 0, 0, 0, 0)), (.invokespecial 1, 3, (0, 0, 0, 0, 0)), (.aload_n 0, 1, (0, 0, 0, 0, 0)), (.sipush 1728, 3, (0, 0, 0, 1728, 0)), (.newarray .int, 2, (0, 0, 0, 0, 0)), (.putfield 9, 3, (8, 2, 578, 3, 0)), (.aload_n 0, 1, (0, 0, 0, 0, 0)), (.iconst 0, 1, (0, 0, 0, 0, 0)), (.newarray .int, 2, (0, 0, 0, 0, 0)), (.putfield 15, 3, (8, 7, 583, 3, 0)), (.return_, 1, (0, 0, 0, 0, 0))]
theorem oo_EN_init_0 : jokL "ChessHouse$Endings" lw_tbl jcl jtb 1 true prog_6_method_1_code 0 kk_EN_init_0 = true := by decide +kernel
def k_EN_init_0 : List jI := [(.aload_n 0, 1, (0, 0, 0, 0, 0))]
theorem o_EN_init_0 : jokL "ChessHouse$Endings" lw_tbl jcl jtb 1 true prog_6_method_1_code 0 k_EN_init_0 = true := jok_sub oo_EN_init_0 0 1 rfl rfl
def k_EN_init_4 : List jI := [(.aload_n 0, 1, (0, 0, 0, 0, 0)), (.sipush 1728, 3, (0, 0, 0, 1728, 0))]
theorem o_EN_init_4 : jokL "ChessHouse$Endings" lw_tbl jcl jtb 1 true prog_6_method_1_code 4 k_EN_init_4 = true := jok_sub oo_EN_init_0 2 2 rfl rfl
def k_EN_init_10 : List jI := [(.putfield 9, 3, (8, 2, 578, 3, 0)), (.aload_n 0, 1, (0, 0, 0, 0, 0)), (.iconst 0, 1, (0, 0, 0, 0, 0))]
theorem o_EN_init_10 : jokL "ChessHouse$Endings" lw_tbl jcl jtb 1 true prog_6_method_1_code 10 k_EN_init_10 = true := jok_sub oo_EN_init_0 5 3 rfl rfl
def k_EN_init_17 : List jI := [(.putfield 15, 3, (8, 7, 583, 3, 0))]
theorem o_EN_init_17 : jokL "ChessHouse$Endings" lw_tbl jcl jtb 1 true prog_6_method_1_code 17 k_EN_init_17 = true := jok_sub oo_EN_init_0 9 1 rfl rfl
theorem d_EN_init_1 : decode prog_6_method_1_code 1 = .ok (.invokespecial 1, 3) := by decide +kernel
theorem d_EN_init_8 : decode prog_6_method_1_code 8 = .ok (.newarray .int, 2) := by decide +kernel
theorem d_EN_init_15 : decode prog_6_method_1_code 15 = .ok (.newarray .int, 2) := by decide +kernel
theorem d_EN_init_20 : decode prog_6_method_1_code 20 = .ok (.return_, 1) := by decide +kernel
def y_BO_stepsToEdge : jY := (⟨"ChessHouse$Board", "stepsToEdge", "(II)I"⟩, prog_3_method_2_code, 7, (some .int))
theorem m_BO_stepsToEdge : jmth lw_tbl y_BO_stepsToEdge 2 := ⟨jTA_in (wi := 623) (by decide +kernel) rfl, jTA_in (wi := 312) (by decide +kernel) rfl, by decide, by decide, by decide +kernel⟩
theorem s_BO_stepsToEdge : Jvm.Cond.static y_BO_stepsToEdge.1 ∈ jTA lw_tbl := jTA_in (wi := 622) (by decide +kernel) rfl
def kk_BO_stepsToEdge_0 : List jI := [(.iconst 0, 1, (0, 0, 0, 0, 0)), (.istore_n 2, 1, (2, 0, 0, 0, 0)), (.iload_n 0, 1, (0, 0, 0, 0, 0)), (.istore_n 3, 1, (3, 0, 0, 0, 0)), (.iconst 0, 1, (0, 0, 0, 0, 0)), (.istore 4, 2, (4, 0, 0, 0, 0)), (.iload 4, 2, (4, 0, 0, 0, 0)), (.bipush 7, 2, (0, 0, 0, 7, 0)), (.if_icmp .ge 59, 3, (70, 0, 0, 0, 0)), (.iload_n 3, 1, (3, 0, 0, 0, 0)), (.iload_n 1, 1, (1, 0, 0, 0, 0)), (.iadd, 1, (0, 0, 0, 0, 0)), (.istore 5, 2, (5, 0, 0, 0, 0)), (.iload 5, 2, (5, 0, 0, 0, 0)), (.bipush 7, 2, (0, 0, 0, 7, 0)), (.iand, 1, (0, 0, 0, 0, 0)), (.iload_n 3, 1, (3, 0, 0, 0, 0)), (.bipush 7, 2, (0, 0, 0, 7, 0)), (.iand, 1, (0, 0, 0, 0, 0)), (.isub, 1, (0, 0, 0, 0, 0)), (.istore 6, 2, (6, 0, 0, 0, 0)), (.iload 5, 2, (5, 0, 0, 0, 0)), (.ifCond .lt 37, 3, (70, 0, 0, 0, 0)), (.iload 5, 2, (5, 0, 0, 0, 0)), (.bipush 63, 2, (0, 0, 0, 63, 0)), (.if_icmp .gt 30, 3, (70, 0, 0, 0, 0)), (.iload 6, 2, (6, 0, 0, 0, 0)), (.iconst 1, 1, (0, 0, 0, 1, 0)), (.if_icmp .gt 24, 3, (70, 0, 0, 0, 0)), (.iload 6, 2, (6, 0, 0, 0, 0)), (.iconst (-1), 1, (0, 0, 0, (-1), 0)), (.if_icmp .ge 6, 3, (58, 0, 0, 0, 0)), (.goto 15, 3, (70, 0, 0, 0, 0)), (.iload 5, 2, (5, 0, 0, 0, 0)), (.istore_n 3, 1, (3, 0, 0, 0, 0)), (.iinc 2 1, 3, (0, 0, 0, 1, 0)), (.iinc 4 1, 3, (0, 0, 0, 1, 0)), (.goto (-60), 3, (7, 0, 0, 0, 0)), (.iload_n 2, 1, (2, 0, 0, 0, 0)), (.ireturn, 1, (0, 0, 0, 0, 0))]
theorem oo_BO_stepsToEdge_0 : jokL "ChessHouse$Board" lw_tbl jcl jtb 7 false prog_3_method_2_code 0 kk_BO_stepsToEdge_0 = true := by decide +kernel
def k_BO_stepsToEdge_0 : List jI := [(.iconst 0, 1, (0, 0, 0, 0, 0)), (.istore_n 2, 1, (2, 0, 0, 0, 0)), (.iload_n 0, 1, (0, 0, 0, 0, 0)), (.istore_n 3, 1, (3, 0, 0, 0, 0)), (.iconst 0, 1, (0, 0, 0, 0, 0)), (.istore 4, 2, (4, 0, 0, 0, 0))]
theorem o_BO_stepsToEdge_0 : jokL "ChessHouse$Board" lw_tbl jcl jtb 7 false prog_3_method_2_code 0 k_BO_stepsToEdge_0 = true := jok_sub oo_BO_stepsToEdge_0 0 6 rfl rfl
def k_BO_stepsToEdge_7 : List jI := [(.iload 4, 2, (4, 0, 0, 0, 0)), (.bipush 7, 2, (0, 0, 0, 7, 0)), (.if_icmp .ge 59, 3, (70, 0, 0, 0, 0)), (.iload_n 3, 1, (3, 0, 0, 0, 0)), (.iload_n 1, 1, (1, 0, 0, 0, 0)), (.iadd, 1, (0, 0, 0, 0, 0)), (.istore 5, 2, (5, 0, 0, 0, 0)), (.iload 5, 2, (5, 0, 0, 0, 0)), (.bipush 7, 2, (0, 0, 0, 7, 0)), (.iand, 1, (0, 0, 0, 0, 0)), (.iload_n 3, 1, (3, 0, 0, 0, 0)), (.bipush 7, 2, (0, 0, 0, 7, 0)), (.iand, 1, (0, 0, 0, 0, 0)), (.isub, 1, (0, 0, 0, 0, 0)), (.istore 6, 2, (6, 0, 0, 0, 0)), (.iload 5, 2, (5, 0, 0, 0, 0)), (.ifCond .lt 37, 3, (70, 0, 0, 0, 0)), (.iload 5, 2, (5, 0, 0, 0, 0)), (.bipush 63, 2, (0, 0, 0, 63, 0)), (.if_icmp .gt 30, 3, (70, 0, 0, 0, 0)), (.iload 6, 2, (6, 0, 0, 0, 0)), (.iconst 1, 1, (0, 0, 0, 1, 0)), (.if_icmp .gt 24, 3, (70, 0, 0, 0, 0)), (.iload 6, 2, (6, 0, 0, 0, 0)), (.iconst (-1), 1, (0, 0, 0, (-1), 0)), (.if_icmp .ge 6, 3, (58, 0, 0, 0, 0)), (.goto 15, 3, (70, 0, 0, 0, 0))]
theorem o_BO_stepsToEdge_7 : jokL "ChessHouse$Board" lw_tbl jcl jtb 7 false prog_3_method_2_code 7 k_BO_stepsToEdge_7 = true := jok_sub oo_BO_stepsToEdge_0 6 27 rfl rfl
def k_BO_stepsToEdge_58 : List jI := [(.iload 5, 2, (5, 0, 0, 0, 0)), (.istore_n 3, 1, (3, 0, 0, 0, 0)), (.iinc 2 1, 3, (0, 0, 0, 1, 0)), (.iinc 4 1, 3, (0, 0, 0, 1, 0)), (.goto (-60), 3, (7, 0, 0, 0, 0))]
theorem o_BO_stepsToEdge_58 : jokL "ChessHouse$Board" lw_tbl jcl jtb 7 false prog_3_method_2_code 58 k_BO_stepsToEdge_58 = true := jok_sub oo_BO_stepsToEdge_0 33 5 rfl rfl
def k_BO_stepsToEdge_70 : List jI := [(.iload_n 2, 1, (2, 0, 0, 0, 0))]
theorem o_BO_stepsToEdge_70 : jokL "ChessHouse$Board" lw_tbl jcl jtb 7 false prog_3_method_2_code 70 k_BO_stepsToEdge_70 = true := jok_sub oo_BO_stepsToEdge_0 38 1 rfl rfl
theorem d_BO_stepsToEdge_71 : decode prog_3_method_2_code 71 = .ok (.ireturn, 1) := by decide +kernel
end
section
def y_BO_fillHops : jY := (⟨"ChessHouse$Board", "fillHops", "(I)V"⟩, prog_3_method_3_code, 6, none)
theorem m_BO_fillHops : jmth lw_tbl y_BO_fillHops 1 := ⟨jTA_in (wi := 627) (by decide +kernel) rfl, jTA_in (wi := 312) (by decide +kernel) rfl, by decide, by decide, by decide +kernel⟩
theorem i_BO_fillHops : Jvm.Cond.instanceMethod y_BO_fillHops.1 ∈ jTA lw_tbl := jTA_in (wi := 626) (by decide +kernel) rfl
theorem e_BO_fillHops : Jvm.Cond.selects y_BO_fillHops.1.cls y_BO_fillHops.1 y_BO_fillHops.1 ∈ jTA lw_tbl := jTA_in (wi := 0) (by decide +kernel) rfl
def kk_BO_fillHops_0 : List jI := [(.iload_n 1, 1, (1, 0, 0, 0, 0)), (.bipush 8, 2, (0, 0, 0, 8, 0)), (.imul, 1, (0, 0, 0, 0, 0)), (.istore_n 2, 1, (2, 0, 0, 0, 0)), (.aload_n 0, 1, (0, 0, 0, 0, 0)), (.getfield 35, 3, (10, 13, 682, 0, 0)), (.iload_n 2, 1, (2, 0, 0, 0, 0)), (.iload_n 2, 1, (2, 0, 0, 0, 0)), (.bipush 8, 2, (0, 0, 0, 8, 0)), (.iadd, 1, (0, 0, 0, 0, 0)), (.iconst (-1), 1, (0, 0, 0, (-1), 0)), (.invokestatic 61, 3, (0, 0, 0, 0, 0)), (.iconst 0, 1, (0, 0, 0, 0, 0)), (.istore_n 3, 1, (3, 0, 0, 0, 0)), (.iload_n 3, 1, (3, 0, 0, 0, 0)), (.bipush 64, 2, (0, 0, 0, 64, 0)), (.if_icmp .ge 54, 3, (77, 0, 0, 0, 0)), (.iload_n 3, 1, (3, 0, 0, 0, 0)), (.bipush 7, 2, (0, 0, 0, 7, 0)), (.iand, 1, (0, 0, 0, 0, 0)), (.iload_n 1, 1, (1, 0, 0, 0, 0)), (.bipush 7, 2, (0, 0, 0, 7, 0)), (.iand, 1, (0, 0, 0, 0, 0)), (.isub, 1, (0, 0, 0, 0, 0)), (.istore 4, 2, (4, 0, 0, 0, 0)), (.iload_n 3, 1, (3, 0, 0, 0, 0)), (.iconst 3, 1, (0, 0, 0, 3, 0)), (.ishr, 1, (0, 0, 0, 0, 0)), (.iload_n 1, 1, (1, 0, 0, 0, 0)), (.iconst 3, 1, (0, 0, 0, 3, 0)), (.ishr, 1, (0, 0, 0, 0, 0)), (.isub, 1, (0, 0, 0, 0, 0)), (.istore 5, 2, (5, 0, 0, 0, 0)), (.iload 4, 2, (4, 0, 0, 0, 0)), (.iload 4, 2, (4, 0, 0, 0, 0)), (.imul, 1, (0, 0, 0, 0, 0)), (.iload 5, 2, (5, 0, 0, 0, 0)), (.iload 5, 2, (5, 0, 0, 0, 0)), (.imul, 1, (0, 0, 0, 0, 0)), (.iadd, 1, (0, 0, 0, 0, 0)), (.iconst 5, 1, (0, 0, 0, 5, 0)), (.if_icmp .ne 13, 3, (71, 0, 0, 0, 0)), (.aload_n 0, 1, (0, 0, 0, 0, 0)), (.getfield 35, 3, (10, 13, 682, 0, 0)), (.iload_n 2, 1, (2, 0, 0, 0, 0)), (.iload_n 3, 1, (3, 0, 0, 0, 0)), (.iastore, 1, (0, 0, 0, 0, 0)), (.iinc 2 1, 3, (0, 0, 0, 1, 0)), (.iinc 3 1, 3, (0, 0, 0, 1, 0)), (.goto (-54), 3, (20, 0, 0, 0, 0)), (.return_, 1, (0, 0, 0, 0, 0))]
theorem oo_BO_fillHops_0 : jokL "ChessHouse$Board" lw_tbl jcl jtb 6 false prog_3_method_3_code 0 kk_BO_fillHops_0 = true := by decide +kernel
def k_BO_fillHops_0 : List jI := [(.iload_n 1, 1, (1, 0, 0, 0, 0)), (.bipush 8, 2, (0, 0, 0, 8, 0)), (.imul, 1, (0, 0, 0, 0, 0)), (.istore_n 2, 1, (2, 0, 0, 0, 0)), (.aload_n 0, 1, (0, 0, 0, 0, 0)), (.getfield 35, 3, (10, 13, 682, 0, 0)), (.iload_n 2, 1, (2, 0, 0, 0, 0)), (.iload_n 2, 1, (2, 0, 0, 0, 0)), (.bipush 8, 2, (0, 0, 0, 8, 0)), (.iadd, 1, (0, 0, 0, 0, 0)), (.iconst (-1), 1, (0, 0, 0, (-1), 0))]
theorem o_BO_fillHops_0 : jokL "ChessHouse$Board" lw_tbl jcl jtb 6 false prog_3_method_3_code 0 k_BO_fillHops_0 = true := jok_sub oo_BO_fillHops_0 0 11 rfl rfl
def k_BO_fillHops_18 : List jI := [(.iconst 0, 1, (0, 0, 0, 0, 0)), (.istore_n 3, 1, (3, 0, 0, 0, 0))]
theorem o_BO_fillHops_18 : jokL "ChessHouse$Board" lw_tbl jcl jtb 6 false prog_3_method_3_code 18 k_BO_fillHops_18 = true := jok_sub oo_BO_fillHops_0 12 2 rfl rfl
def k_BO_fillHops_20 : List jI := [(.iload_n 3, 1, (3, 0, 0, 0, 0)), (.bipush 64, 2, (0, 0, 0, 64, 0)), (.if_icmp .ge 54, 3, (77, 0, 0, 0, 0)), (.iload_n 3, 1, (3, 0, 0, 0, 0)), (.bipush 7, 2, (0, 0, 0, 7, 0)), (.iand, 1, (0, 0, 0, 0, 0)), (.iload_n 1, 1, (1, 0, 0, 0, 0)), (.bipush 7, 2, (0, 0, 0, 7, 0)), (.iand, 1, (0, 0, 0, 0, 0)), (.isub, 1, (0, 0, 0, 0, 0)), (.istore 4, 2, (4, 0, 0, 0, 0)), (.iload_n 3, 1, (3, 0, 0, 0, 0)), (.iconst 3, 1, (0, 0, 0, 3, 0)), (.ishr, 1, (0, 0, 0, 0, 0)), (.iload_n 1, 1, (1, 0, 0, 0, 0)), (.iconst 3, 1, (0, 0, 0, 3, 0)), (.ishr, 1, (0, 0, 0, 0, 0)), (.isub, 1, (0, 0, 0, 0, 0)), (.istore 5, 2, (5, 0, 0, 0, 0)), (.iload 4, 2, (4, 0, 0, 0, 0)), (.iload 4, 2, (4, 0, 0, 0, 0)), (.imul, 1, (0, 0, 0, 0, 0)), (.iload 5, 2, (5, 0, 0, 0, 0)), (.iload 5, 2, (5, 0, 0, 0, 0)), (.imul, 1, (0, 0, 0, 0, 0)), (.iadd, 1, (0, 0, 0, 0, 0)), (.iconst 5, 1, (0, 0, 0, 5, 0)), (.if_icmp .ne 13, 3, (71, 0, 0, 0, 0)), (.aload_n 0, 1, (0, 0, 0, 0, 0)), (.getfield 35, 3, (10, 13, 682, 0, 0)), (.iload_n 2, 1, (2, 0, 0, 0, 0)), (.iload_n 3, 1, (3, 0, 0, 0, 0)), (.iastore, 1, (0, 0, 0, 0, 0)), (.iinc 2 1, 3, (0, 0, 0, 1, 0))]
theorem o_BO_fillHops_20 : jokL "ChessHouse$Board" lw_tbl jcl jtb 6 false prog_3_method_3_code 20 k_BO_fillHops_20 = true := jok_sub oo_BO_fillHops_0 14 34 rfl rfl
def k_BO_fillHops_71 : List jI := [(.iinc 3 1, 3, (0, 0, 0, 1, 0)), (.goto (-54), 3, (20, 0, 0, 0, 0))]
theorem o_BO_fillHops_71 : jokL "ChessHouse$Board" lw_tbl jcl jtb 6 false prog_3_method_3_code 71 k_BO_fillHops_71 = true := jok_sub oo_BO_fillHops_0 48 2 rfl rfl
theorem d_BO_fillHops_15 : decode prog_3_method_3_code 15 = .ok (.invokestatic 61, 3) := by decide +kernel
theorem q_BO_fillHops_15 : jlm lw_tbl 628 "ChessHouse$Board" 61 ⟨"java/util/Arrays", "fill", "([IIII)V"⟩ = true := by decide +kernel
theorem d_BO_fillHops_77 : decode prog_3_method_3_code 77 = .ok (.return_, 1) := by decide +kernel
def y_BO_middle : jY := (⟨"ChessHouse$Board", "middle", "(I)I"⟩, prog_3_method_4_code, 3, (some .int))
theorem m_BO_middle : jmth lw_tbl y_BO_middle 1 := ⟨jTA_in (wi := 639) (by decide +kernel) rfl, jTA_in (wi := 312) (by decide +kernel) rfl, by decide, by decide, by decide +kernel⟩
theorem s_BO_middle : Jvm.Cond.static y_BO_middle.1 ∈ jTA lw_tbl := jTA_in (wi := 638) (by decide +kernel) rfl
def kk_BO_middle_0 : List jI := [(.iload_n 0, 1, (0, 0, 0, 0, 0)), (.bipush 7, 2, (0, 0, 0, 7, 0)), (.iand, 1, (0, 0, 0, 0, 0)), (.istore_n 1, 1, (1, 0, 0, 0, 0)), (.iload_n 0, 1, (0, 0, 0, 0, 0)), (.iconst 3, 1, (0, 0, 0, 3, 0)), (.ishr, 1, (0, 0, 0, 0, 0)), (.istore_n 2, 1, (2, 0, 0, 0, 0)), (.iload_n 1, 1, (1, 0, 0, 0, 0)), (.iconst 4, 1, (0, 0, 0, 4, 0)), (.if_icmp .ge 7, 3, (18, 0, 0, 0, 0)), (.iload_n 1, 1, (1, 0, 0, 0, 0)), (.goto 7, 3, (22, 0, 0, 0, 0)), (.bipush 7, 2, (0, 0, 0, 7, 0)), (.iload_n 1, 1, (1, 0, 0, 0, 0)), (.isub, 1, (0, 0, 0, 0, 0)), (.iload_n 2, 1, (2, 0, 0, 0, 0)), (.iconst 4, 1, (0, 0, 0, 4, 0)), (.if_icmp .ge 7, 3, (31, 0, 0, 0, 0)), (.iload_n 2, 1, (2, 0, 0, 0, 0)), (.goto 7, 3, (35, 0, 0, 0, 0)), (.bipush 7, 2, (0, 0, 0, 7, 0)), (.iload_n 2, 1, (2, 0, 0, 0, 0)), (.isub, 1, (0, 0, 0, 0, 0)), (.iadd, 1, (0, 0, 0, 0, 0)), (.ireturn, 1, (0, 0, 0, 0, 0))]
theorem oo_BO_middle_0 : jokL "ChessHouse$Board" lw_tbl jcl jtb 3 false prog_3_method_4_code 0 kk_BO_middle_0 = true := by decide +kernel
def k_BO_middle_0 : List jI := [(.iload_n 0, 1, (0, 0, 0, 0, 0)), (.bipush 7, 2, (0, 0, 0, 7, 0)), (.iand, 1, (0, 0, 0, 0, 0)), (.istore_n 1, 1, (1, 0, 0, 0, 0)), (.iload_n 0, 1, (0, 0, 0, 0, 0)), (.iconst 3, 1, (0, 0, 0, 3, 0)), (.ishr, 1, (0, 0, 0, 0, 0)), (.istore_n 2, 1, (2, 0, 0, 0, 0)), (.iload_n 1, 1, (1, 0, 0, 0, 0)), (.iconst 4, 1, (0, 0, 0, 4, 0)), (.if_icmp .ge 7, 3, (18, 0, 0, 0, 0)), (.iload_n 1, 1, (1, 0, 0, 0, 0)), (.goto 7, 3, (22, 0, 0, 0, 0))]
theorem o_BO_middle_0 : jokL "ChessHouse$Board" lw_tbl jcl jtb 3 false prog_3_method_4_code 0 k_BO_middle_0 = true := jok_sub oo_BO_middle_0 0 13 rfl rfl
def k_BO_middle_18 : List jI := [(.bipush 7, 2, (0, 0, 0, 7, 0)), (.iload_n 1, 1, (1, 0, 0, 0, 0)), (.isub, 1, (0, 0, 0, 0, 0))]
theorem o_BO_middle_18 : jokL "ChessHouse$Board" lw_tbl jcl jtb 3 false prog_3_method_4_code 18 k_BO_middle_18 = true := jok_sub oo_BO_middle_0 13 3 rfl rfl
def k_BO_middle_22 : List jI := [(.iload_n 2, 1, (2, 0, 0, 0, 0)), (.iconst 4, 1, (0, 0, 0, 4, 0)), (.if_icmp .ge 7, 3, (31, 0, 0, 0, 0)), (.iload_n 2, 1, (2, 0, 0, 0, 0)), (.goto 7, 3, (35, 0, 0, 0, 0))]
theorem o_BO_middle_22 : jokL "ChessHouse$Board" lw_tbl jcl jtb 3 false prog_3_method_4_code 22 k_BO_middle_22 = true := jok_sub oo_BO_middle_0 16 5 rfl rfl
def k_BO_middle_31 : List jI := [(.bipush 7, 2, (0, 0, 0, 7, 0)), (.iload_n 2, 1, (2, 0, 0, 0, 0)), (.isub, 1, (0, 0, 0, 0, 0))]
theorem o_BO_middle_31 : jokL "ChessHouse$Board" lw_tbl jcl jtb 3 false prog_3_method_4_code 31 k_BO_middle_31 = true := jok_sub oo_BO_middle_0 21 3 rfl rfl
def k_BO_middle_35 : List jI := [(.iadd, 1, (0, 0, 0, 0, 0))]
theorem o_BO_middle_35 : jokL "ChessHouse$Board" lw_tbl jcl jtb 3 false prog_3_method_4_code 35 k_BO_middle_35 = true := jok_sub oo_BO_middle_0 24 1 rfl rfl
theorem d_BO_middle_36 : decode prog_3_method_4_code 36 = .ok (.ireturn, 1) := by decide +kernel
def y_BO_worthOf : jY := (⟨"ChessHouse$Board", "worthOf", "(II)I"⟩, prog_3_method_5_code, 2, (some .int))
theorem m_BO_worthOf : jmth lw_tbl y_BO_worthOf 2 := ⟨jTA_in (wi := 636) (by decide +kernel) rfl, jTA_in (wi := 312) (by decide +kernel) rfl, by decide, by decide, by decide +kernel⟩
theorem s_BO_worthOf : Jvm.Cond.static y_BO_worthOf.1 ∈ jTA lw_tbl := jTA_in (wi := 635) (by decide +kernel) rfl
def kk_BO_worthOf_0 : List jI := [(.iload_n 0, 1, (0, 0, 0, 0, 0)), (.bipush 7, 2, (0, 0, 0, 7, 0)), (.iand, 1, (0, 0, 0, 0, 0)), (.tableswitch 98 1 5 #[36, 63, 74, 85, 89], 36, (0, 0, 0, 0, 0)), (.bipush 100, 2, (0, 0, 0, 100, 0)), (.bipush 6, 2, (0, 0, 0, 6, 0)), (.iload_n 0, 1, (0, 0, 0, 0, 0)), (.bipush 8, 2, (0, 0, 0, 8, 0)), (.if_icmp .ge 11, 3, (58, 0, 0, 0, 0)), (.iload_n 1, 1, (1, 0, 0, 0, 0)), (.iconst 3, 1, (0, 0, 0, 3, 0)), (.ishr, 1, (0, 0, 0, 0, 0)), (.iconst 1, 1, (0, 0, 0, 1, 0)), (.isub, 1, (0, 0, 0, 0, 0)), (.goto 9, 3, (64, 0, 0, 0, 0)), (.bipush 6, 2, (0, 0, 0, 6, 0)), (.iload_n 1, 1, (1, 0, 0, 0, 0)), (.iconst 3, 1, (0, 0, 0, 3, 0)), (.ishr, 1, (0, 0, 0, 0, 0)), (.isub, 1, (0, 0, 0, 0, 0)), (.imul, 1, (0, 0, 0, 0, 0)), (.iadd, 1, (0, 0, 0, 0, 0)), (.ireturn, 1, (0, 0, 0, 0, 0)), (.sipush 320, 3, (0, 0, 0, 320, 0)), (.iconst 4, 1, (0, 0, 0, 4, 0)), (.iload_n 1, 1, (1, 0, 0, 0, 0)), (.invokestatic 67, 3, (0, 0, 0, 0, 0)), (.imul, 1, (0, 0, 0, 0, 0)), (.iadd, 1, (0, 0, 0, 0, 0)), (.ireturn, 1, (0, 0, 0, 0, 0)), (.sipush 330, 3, (0, 0, 0, 330, 0)), (.iconst 3, 1, (0, 0, 0, 3, 0)), (.iload_n 1, 1, (1, 0, 0, 0, 0)), (.invokestatic 67, 3, (0, 0, 0, 0, 0)), (.imul, 1, (0, 0, 0, 0, 0)), (.iadd, 1, (0, 0, 0, 0, 0)), (.ireturn, 1, (0, 0, 0, 0, 0)), (.sipush 500, 3, (0, 0, 0, 500, 0)), (.ireturn, 1, (0, 0, 0, 0, 0)), (.sipush 900, 3, (0, 0, 0, 900, 0)), (.iload_n 1, 1, (1, 0, 0, 0, 0)), (.invokestatic 67, 3, (0, 0, 0, 0, 0)), (.iadd, 1, (0, 0, 0, 0, 0)), (.ireturn, 1, (0, 0, 0, 0, 0)), (.iconst 0, 1, (0, 0, 0, 0, 0)), (.ireturn, 1, (0, 0, 0, 0, 0))]
theorem oo_BO_worthOf_0 : jokL "ChessHouse$Board" lw_tbl jcl jtb 2 false prog_3_method_5_code 0 kk_BO_worthOf_0 = true := by decide +kernel
def k_BO_worthOf_0 : List jI := [(.iload_n 0, 1, (0, 0, 0, 0, 0)), (.bipush 7, 2, (0, 0, 0, 7, 0)), (.iand, 1, (0, 0, 0, 0, 0))]
theorem o_BO_worthOf_0 : jokL "ChessHouse$Board" lw_tbl jcl jtb 2 false prog_3_method_5_code 0 k_BO_worthOf_0 = true := jok_sub oo_BO_worthOf_0 0 3 rfl rfl
def k_BO_worthOf_40 : List jI := [(.bipush 100, 2, (0, 0, 0, 100, 0)), (.bipush 6, 2, (0, 0, 0, 6, 0)), (.iload_n 0, 1, (0, 0, 0, 0, 0)), (.bipush 8, 2, (0, 0, 0, 8, 0)), (.if_icmp .ge 11, 3, (58, 0, 0, 0, 0)), (.iload_n 1, 1, (1, 0, 0, 0, 0)), (.iconst 3, 1, (0, 0, 0, 3, 0)), (.ishr, 1, (0, 0, 0, 0, 0)), (.iconst 1, 1, (0, 0, 0, 1, 0)), (.isub, 1, (0, 0, 0, 0, 0)), (.goto 9, 3, (64, 0, 0, 0, 0))]
theorem o_BO_worthOf_40 : jokL "ChessHouse$Board" lw_tbl jcl jtb 2 false prog_3_method_5_code 40 k_BO_worthOf_40 = true := jok_sub oo_BO_worthOf_0 4 11 rfl rfl
def k_BO_worthOf_58 : List jI := [(.bipush 6, 2, (0, 0, 0, 6, 0)), (.iload_n 1, 1, (1, 0, 0, 0, 0)), (.iconst 3, 1, (0, 0, 0, 3, 0)), (.ishr, 1, (0, 0, 0, 0, 0)), (.isub, 1, (0, 0, 0, 0, 0))]
theorem o_BO_worthOf_58 : jokL "ChessHouse$Board" lw_tbl jcl jtb 2 false prog_3_method_5_code 58 k_BO_worthOf_58 = true := jok_sub oo_BO_worthOf_0 15 5 rfl rfl
def k_BO_worthOf_64 : List jI := [(.imul, 1, (0, 0, 0, 0, 0)), (.iadd, 1, (0, 0, 0, 0, 0))]
theorem o_BO_worthOf_64 : jokL "ChessHouse$Board" lw_tbl jcl jtb 2 false prog_3_method_5_code 64 k_BO_worthOf_64 = true := jok_sub oo_BO_worthOf_0 20 2 rfl rfl
def k_BO_worthOf_67 : List jI := [(.sipush 320, 3, (0, 0, 0, 320, 0)), (.iconst 4, 1, (0, 0, 0, 4, 0)), (.iload_n 1, 1, (1, 0, 0, 0, 0))]
theorem o_BO_worthOf_67 : jokL "ChessHouse$Board" lw_tbl jcl jtb 2 false prog_3_method_5_code 67 k_BO_worthOf_67 = true := jok_sub oo_BO_worthOf_0 23 3 rfl rfl
def k_BO_worthOf_75 : List jI := [(.imul, 1, (0, 0, 0, 0, 0)), (.iadd, 1, (0, 0, 0, 0, 0))]
theorem o_BO_worthOf_75 : jokL "ChessHouse$Board" lw_tbl jcl jtb 2 false prog_3_method_5_code 75 k_BO_worthOf_75 = true := jok_sub oo_BO_worthOf_0 27 2 rfl rfl
def k_BO_worthOf_78 : List jI := [(.sipush 330, 3, (0, 0, 0, 330, 0)), (.iconst 3, 1, (0, 0, 0, 3, 0)), (.iload_n 1, 1, (1, 0, 0, 0, 0))]
theorem o_BO_worthOf_78 : jokL "ChessHouse$Board" lw_tbl jcl jtb 2 false prog_3_method_5_code 78 k_BO_worthOf_78 = true := jok_sub oo_BO_worthOf_0 30 3 rfl rfl
def k_BO_worthOf_86 : List jI := [(.imul, 1, (0, 0, 0, 0, 0)), (.iadd, 1, (0, 0, 0, 0, 0))]
theorem o_BO_worthOf_86 : jokL "ChessHouse$Board" lw_tbl jcl jtb 2 false prog_3_method_5_code 86 k_BO_worthOf_86 = true := jok_sub oo_BO_worthOf_0 34 2 rfl rfl
def k_BO_worthOf_89 : List jI := [(.sipush 500, 3, (0, 0, 0, 500, 0))]
theorem o_BO_worthOf_89 : jokL "ChessHouse$Board" lw_tbl jcl jtb 2 false prog_3_method_5_code 89 k_BO_worthOf_89 = true := jok_sub oo_BO_worthOf_0 37 1 rfl rfl
def k_BO_worthOf_93 : List jI := [(.sipush 900, 3, (0, 0, 0, 900, 0)), (.iload_n 1, 1, (1, 0, 0, 0, 0))]
theorem o_BO_worthOf_93 : jokL "ChessHouse$Board" lw_tbl jcl jtb 2 false prog_3_method_5_code 93 k_BO_worthOf_93 = true := jok_sub oo_BO_worthOf_0 39 2 rfl rfl
def k_BO_worthOf_100 : List jI := [(.iadd, 1, (0, 0, 0, 0, 0))]
theorem o_BO_worthOf_100 : jokL "ChessHouse$Board" lw_tbl jcl jtb 2 false prog_3_method_5_code 100 k_BO_worthOf_100 = true := jok_sub oo_BO_worthOf_0 42 1 rfl rfl
def k_BO_worthOf_102 : List jI := [(.iconst 0, 1, (0, 0, 0, 0, 0))]
theorem o_BO_worthOf_102 : jokL "ChessHouse$Board" lw_tbl jcl jtb 2 false prog_3_method_5_code 102 k_BO_worthOf_102 = true := jok_sub oo_BO_worthOf_0 44 1 rfl rfl
theorem d_BO_worthOf_4 : decode prog_3_method_5_code 4 = .ok (.tableswitch 98 1 5 #[36, 63, 74, 85, 89], 36) := by decide +kernel
theorem d_BO_worthOf_66 : decode prog_3_method_5_code 66 = .ok (.ireturn, 1) := by decide +kernel
theorem d_BO_worthOf_72 : decode prog_3_method_5_code 72 = .ok (.invokestatic 67, 3) := by decide +kernel
theorem q_BO_worthOf_72 : jlm lw_tbl 637 "ChessHouse$Board" 67 ⟨"ChessHouse$Board", "middle", "(I)I"⟩ = true := by decide +kernel
theorem d_BO_worthOf_77 : decode prog_3_method_5_code 77 = .ok (.ireturn, 1) := by decide +kernel
theorem d_BO_worthOf_83 : decode prog_3_method_5_code 83 = .ok (.invokestatic 67, 3) := by decide +kernel
theorem q_BO_worthOf_83 : jlm lw_tbl 637 "ChessHouse$Board" 67 ⟨"ChessHouse$Board", "middle", "(I)I"⟩ = true := by decide +kernel
theorem d_BO_worthOf_88 : decode prog_3_method_5_code 88 = .ok (.ireturn, 1) := by decide +kernel
theorem d_BO_worthOf_92 : decode prog_3_method_5_code 92 = .ok (.ireturn, 1) := by decide +kernel
theorem d_BO_worthOf_97 : decode prog_3_method_5_code 97 = .ok (.invokestatic 67, 3) := by decide +kernel
theorem q_BO_worthOf_97 : jlm lw_tbl 637 "ChessHouse$Board" 67 ⟨"ChessHouse$Board", "middle", "(I)I"⟩ = true := by decide +kernel
theorem d_BO_worthOf_101 : decode prog_3_method_5_code 101 = .ok (.ireturn, 1) := by decide +kernel
theorem d_BO_worthOf_103 : decode prog_3_method_5_code 103 = .ok (.ireturn, 1) := by decide +kernel
def y_BO_clear : jY := (⟨"ChessHouse$Board", "clear", "()V"⟩, prog_3_method_6_code, 1, none)
theorem m_BO_clear : jmth lw_tbl y_BO_clear 0 := ⟨jTA_in (wi := 647) (by decide +kernel) rfl, jTA_in (wi := 312) (by decide +kernel) rfl, by decide, by decide, by decide +kernel⟩
theorem i_BO_clear : Jvm.Cond.instanceMethod y_BO_clear.1 ∈ jTA lw_tbl := jTA_in (wi := 645) (by decide +kernel) rfl
theorem e_BO_clear : Jvm.Cond.selects y_BO_clear.1.cls y_BO_clear.1 y_BO_clear.1 ∈ jTA lw_tbl := jTA_in (wi := 646) (by decide +kernel) rfl
def kk_BO_clear_0 : List jI := [(.aload_n 0, 1, (0, 0, 0, 0, 0)), (.getfield 7, 3, (10, 0, 660, 0, 0)), (.iconst 0, 1, (0, 0, 0, 0, 0)), (.invokestatic 71, 3, (0, 0, 0, 0, 0)), (.aload_n 0, 1, (0, 0, 0, 0, 0)), (.getfield 13, 3, (10, 1, 663, 0, 0)), (.iconst 0, 1, (0, 0, 0, 0, 0)), (.invokestatic 71, 3, (0, 0, 0, 0, 0)), (.aload_n 0, 1, (0, 0, 0, 0, 0)), (.getfield 16, 3, (10, 7, 676, 0, 0)), (.lconst 0, 1, (0, 0, 0, 0, 0)), (.invokestatic 74, 3, (0, 0, 0, 0, 0)), (.aload_n 0, 1, (0, 0, 0, 0, 0)), (.getfield 20, 3, (10, 8, 677, 0, 0)), (.iconst 0, 1, (0, 0, 0, 0, 0)), (.invokestatic 71, 3, (0, 0, 0, 0, 0)), (.aload_n 0, 1, (0, 0, 0, 0, 0)), (.getfield 23, 3, (10, 9, 678, 0, 0)), (.iconst 0, 1, (0, 0, 0, 0, 0)), (.invokestatic 71, 3, (0, 0, 0, 0, 0)), (.aload_n 0, 1, (0, 0, 0, 0, 0)), (.getfield 26, 3, (10, 10, 679, 0, 0)), (.iconst 0, 1, (0, 0, 0, 0, 0)), (.invokestatic 71, 3, (0, 0, 0, 0, 0)), (.aload_n 0, 1, (0, 0, 0, 0, 0)), (.iconst 0, 1, (0, 0, 0, 0, 0)), (.putfield 77, 3, (10, 2, 667, 0, 0)), (.aload_n 0, 1, (0, 0, 0, 0, 0)), (.iconst 0, 1, (0, 0, 0, 0, 0)), (.putfield 81, 3, (10, 3, 669, 0, 0)), (.aload_n 0, 1, (0, 0, 0, 0, 0)), (.iconst (-1), 1, (0, 0, 0, (-1), 0)), (.putfield 84, 3, (10, 4, 670, 0, 0)), (.aload_n 0, 1, (0, 0, 0, 0, 0)), (.iconst 0, 1, (0, 0, 0, 0, 0)), (.putfield 87, 3, (10, 5, 671, 0, 0)), (.aload_n 0, 1, (0, 0, 0, 0, 0)), (.iconst 1, 1, (0, 0, 0, 1, 0)), (.putfield 90, 3, (10, 6, 674, 0, 0)), (.aload_n 0, 1, (0, 0, 0, 0, 0)), (.iconst 0, 1, (0, 0, 0, 0, 0)), (.putfield 93, 3, (10, 16, 685, 0, 0)), (.return_, 1, (0, 0, 0, 0, 0))]
theorem oo_BO_clear_0 : jokL "ChessHouse$Board" lw_tbl jcl jtb 1 false prog_3_method_6_code 0 kk_BO_clear_0 = true := by decide +kernel
def k_BO_clear_0 : List jI := [(.aload_n 0, 1, (0, 0, 0, 0, 0)), (.getfield 7, 3, (10, 0, 660, 0, 0)), (.iconst 0, 1, (0, 0, 0, 0, 0))]
theorem o_BO_clear_0 : jokL "ChessHouse$Board" lw_tbl jcl jtb 1 false prog_3_method_6_code 0 k_BO_clear_0 = true := jok_sub oo_BO_clear_0 0 3 rfl rfl
def k_BO_clear_8 : List jI := [(.aload_n 0, 1, (0, 0, 0, 0, 0)), (.getfield 13, 3, (10, 1, 663, 0, 0)), (.iconst 0, 1, (0, 0, 0, 0, 0))]
theorem o_BO_clear_8 : jokL "ChessHouse$Board" lw_tbl jcl jtb 1 false prog_3_method_6_code 8 k_BO_clear_8 = true := jok_sub oo_BO_clear_0 4 3 rfl rfl
def k_BO_clear_16 : List jI := [(.aload_n 0, 1, (0, 0, 0, 0, 0)), (.getfield 16, 3, (10, 7, 676, 0, 0)), (.lconst 0, 1, (0, 0, 0, 0, 0))]
theorem o_BO_clear_16 : jokL "ChessHouse$Board" lw_tbl jcl jtb 1 false prog_3_method_6_code 16 k_BO_clear_16 = true := jok_sub oo_BO_clear_0 8 3 rfl rfl
def k_BO_clear_24 : List jI := [(.aload_n 0, 1, (0, 0, 0, 0, 0)), (.getfield 20, 3, (10, 8, 677, 0, 0)), (.iconst 0, 1, (0, 0, 0, 0, 0))]
theorem o_BO_clear_24 : jokL "ChessHouse$Board" lw_tbl jcl jtb 1 false prog_3_method_6_code 24 k_BO_clear_24 = true := jok_sub oo_BO_clear_0 12 3 rfl rfl
def k_BO_clear_32 : List jI := [(.aload_n 0, 1, (0, 0, 0, 0, 0)), (.getfield 23, 3, (10, 9, 678, 0, 0)), (.iconst 0, 1, (0, 0, 0, 0, 0))]
theorem o_BO_clear_32 : jokL "ChessHouse$Board" lw_tbl jcl jtb 1 false prog_3_method_6_code 32 k_BO_clear_32 = true := jok_sub oo_BO_clear_0 16 3 rfl rfl
def k_BO_clear_40 : List jI := [(.aload_n 0, 1, (0, 0, 0, 0, 0)), (.getfield 26, 3, (10, 10, 679, 0, 0)), (.iconst 0, 1, (0, 0, 0, 0, 0))]
theorem o_BO_clear_40 : jokL "ChessHouse$Board" lw_tbl jcl jtb 1 false prog_3_method_6_code 40 k_BO_clear_40 = true := jok_sub oo_BO_clear_0 20 3 rfl rfl
def k_BO_clear_48 : List jI := [(.aload_n 0, 1, (0, 0, 0, 0, 0)), (.iconst 0, 1, (0, 0, 0, 0, 0)), (.putfield 77, 3, (10, 2, 667, 0, 0)), (.aload_n 0, 1, (0, 0, 0, 0, 0)), (.iconst 0, 1, (0, 0, 0, 0, 0)), (.putfield 81, 3, (10, 3, 669, 0, 0)), (.aload_n 0, 1, (0, 0, 0, 0, 0)), (.iconst (-1), 1, (0, 0, 0, (-1), 0)), (.putfield 84, 3, (10, 4, 670, 0, 0)), (.aload_n 0, 1, (0, 0, 0, 0, 0)), (.iconst 0, 1, (0, 0, 0, 0, 0)), (.putfield 87, 3, (10, 5, 671, 0, 0)), (.aload_n 0, 1, (0, 0, 0, 0, 0)), (.iconst 1, 1, (0, 0, 0, 1, 0)), (.putfield 90, 3, (10, 6, 674, 0, 0)), (.aload_n 0, 1, (0, 0, 0, 0, 0)), (.iconst 0, 1, (0, 0, 0, 0, 0)), (.putfield 93, 3, (10, 16, 685, 0, 0))]
theorem o_BO_clear_48 : jokL "ChessHouse$Board" lw_tbl jcl jtb 1 false prog_3_method_6_code 48 k_BO_clear_48 = true := jok_sub oo_BO_clear_0 24 18 rfl rfl
theorem d_BO_clear_5 : decode prog_3_method_6_code 5 = .ok (.invokestatic 71, 3) := by decide +kernel
theorem q_BO_clear_5 : jlm lw_tbl 648 "ChessHouse$Board" 71 ⟨"java/util/Arrays", "fill", "([II)V"⟩ = true := by decide +kernel
theorem d_BO_clear_13 : decode prog_3_method_6_code 13 = .ok (.invokestatic 71, 3) := by decide +kernel
theorem q_BO_clear_13 : jlm lw_tbl 648 "ChessHouse$Board" 71 ⟨"java/util/Arrays", "fill", "([II)V"⟩ = true := by decide +kernel
theorem d_BO_clear_21 : decode prog_3_method_6_code 21 = .ok (.invokestatic 74, 3) := by decide +kernel
theorem q_BO_clear_21 : jlm lw_tbl 651 "ChessHouse$Board" 74 ⟨"java/util/Arrays", "fill", "([JJ)V"⟩ = true := by decide +kernel
theorem d_BO_clear_29 : decode prog_3_method_6_code 29 = .ok (.invokestatic 71, 3) := by decide +kernel
theorem q_BO_clear_29 : jlm lw_tbl 648 "ChessHouse$Board" 71 ⟨"java/util/Arrays", "fill", "([II)V"⟩ = true := by decide +kernel
theorem d_BO_clear_37 : decode prog_3_method_6_code 37 = .ok (.invokestatic 71, 3) := by decide +kernel
theorem q_BO_clear_37 : jlm lw_tbl 648 "ChessHouse$Board" 71 ⟨"java/util/Arrays", "fill", "([II)V"⟩ = true := by decide +kernel
theorem d_BO_clear_45 : decode prog_3_method_6_code 45 = .ok (.invokestatic 71, 3) := by decide +kernel
theorem q_BO_clear_45 : jlm lw_tbl 648 "ChessHouse$Board" 71 ⟨"java/util/Arrays", "fill", "([II)V"⟩ = true := by decide +kernel
theorem d_BO_clear_78 : decode prog_3_method_6_code 78 = .ok (.return_, 1) := by decide +kernel
def y_BO_put : jY := (⟨"ChessHouse$Board", "put", "(II)V"⟩, prog_3_method_8_code, 3, none)
theorem m_BO_put : jmth lw_tbl y_BO_put 2 := ⟨jTA_in (wi := 659) (by decide +kernel) rfl, jTA_in (wi := 312) (by decide +kernel) rfl, by decide, by decide, by decide +kernel⟩
theorem i_BO_put : Jvm.Cond.instanceMethod y_BO_put.1 ∈ jTA lw_tbl := jTA_in (wi := 658) (by decide +kernel) rfl
theorem e_BO_put : Jvm.Cond.selects y_BO_put.1.cls y_BO_put.1 y_BO_put.1 ∈ jTA lw_tbl := jTA_in (wi := 1) (by decide +kernel) rfl
def kk_BO_put_0 : List jI := [(.aload_n 0, 1, (0, 0, 0, 0, 0)), (.getfield 7, 3, (10, 0, 660, 0, 0)), (.iload_n 1, 1, (1, 0, 0, 0, 0)), (.iload_n 2, 1, (2, 0, 0, 0, 0)), (.iastore, 1, (0, 0, 0, 0, 0)), (.aload_n 0, 1, (0, 0, 0, 0, 0)), (.getfield 16, 3, (10, 7, 676, 0, 0)), (.iload_n 1, 1, (1, 0, 0, 0, 0)), (.iconst 4, 1, (0, 0, 0, 4, 0)), (.ishr, 1, (0, 0, 0, 0, 0)), (.dup2, 1, (0, 0, 0, 0, 0)), (.laload, 1, (0, 0, 0, 0, 0)), (.iload_n 2, 1, (2, 0, 0, 0, 0)), (.i2l, 1, (0, 0, 0, 0, 0)), (.iload_n 1, 1, (1, 0, 0, 0, 0)), (.bipush 15, 2, (0, 0, 0, 15, 0)), (.iand, 1, (0, 0, 0, 0, 0)), (.iconst 2, 1, (0, 0, 0, 2, 0)), (.ishl, 1, (0, 0, 0, 0, 0)), (.lshl, 1, (0, 0, 0, 0, 0)), (.lxor, 1, (0, 0, 0, 0, 0)), (.lastore, 1, (0, 0, 0, 0, 0)), (.aload_n 0, 1, (0, 0, 0, 0, 0)), (.getfield 20, 3, (10, 8, 677, 0, 0)), (.iload_n 2, 1, (2, 0, 0, 0, 0)), (.iconst 3, 1, (0, 0, 0, 3, 0)), (.ishr, 1, (0, 0, 0, 0, 0)), (.dup2, 1, (0, 0, 0, 0, 0)), (.iaload, 1, (0, 0, 0, 0, 0)), (.aload_n 0, 1, (0, 0, 0, 0, 0)), (.getfield 29, 3, (10, 11, 680, 0, 0)), (.iload_n 2, 1, (2, 0, 0, 0, 0)), (.bipush 6, 2, (0, 0, 0, 6, 0)), (.ishl, 1, (0, 0, 0, 0, 0)), (.iload_n 1, 1, (1, 0, 0, 0, 0)), (.ior, 1, (0, 0, 0, 0, 0)), (.iaload, 1, (0, 0, 0, 0, 0)), (.iadd, 1, (0, 0, 0, 0, 0)), (.iastore, 1, (0, 0, 0, 0, 0)), (.aload_n 0, 1, (0, 0, 0, 0, 0)), (.getfield 23, 3, (10, 9, 678, 0, 0)), (.iload_n 2, 1, (2, 0, 0, 0, 0)), (.dup2, 1, (0, 0, 0, 0, 0)), (.iaload, 1, (0, 0, 0, 0, 0)), (.iconst 1, 1, (0, 0, 0, 1, 0)), (.iadd, 1, (0, 0, 0, 0, 0)), (.iastore, 1, (0, 0, 0, 0, 0)), (.iload_n 2, 1, (2, 0, 0, 0, 0)), (.bipush 7, 2, (0, 0, 0, 7, 0)), (.iand, 1, (0, 0, 0, 0, 0)), (.iconst 3, 1, (0, 0, 0, 3, 0)), (.if_icmp .ne 22, 3, (86, 0, 0, 0, 0)), (.aload_n 0, 1, (0, 0, 0, 0, 0)), (.getfield 26, 3, (10, 10, 679, 0, 0)), (.iload_n 1, 1, (1, 0, 0, 0, 0)), (.iload_n 1, 1, (1, 0, 0, 0, 0)), (.iconst 3, 1, (0, 0, 0, 3, 0)), (.ishr, 1, (0, 0, 0, 0, 0)), (.ixor, 1, (0, 0, 0, 0, 0)), (.iconst 1, 1, (0, 0, 0, 1, 0)), (.iand, 1, (0, 0, 0, 0, 0)), (.dup2, 1, (0, 0, 0, 0, 0)), (.iaload, 1, (0, 0, 0, 0, 0)), (.iconst 1, 1, (0, 0, 0, 1, 0)), (.iadd, 1, (0, 0, 0, 0, 0)), (.iastore, 1, (0, 0, 0, 0, 0)), (.goto 21, 3, (104, 0, 0, 0, 0)), (.iload_n 2, 1, (2, 0, 0, 0, 0)), (.bipush 7, 2, (0, 0, 0, 7, 0)), (.iand, 1, (0, 0, 0, 0, 0)), (.bipush 6, 2, (0, 0, 0, 6, 0)), (.if_icmp .ne 12, 3, (104, 0, 0, 0, 0)), (.aload_n 0, 1, (0, 0, 0, 0, 0)), (.getfield 13, 3, (10, 1, 663, 0, 0)), (.iload_n 2, 1, (2, 0, 0, 0, 0)), (.iconst 3, 1, (0, 0, 0, 3, 0)), (.ishr, 1, (0, 0, 0, 0, 0)), (.iload_n 1, 1, (1, 0, 0, 0, 0)), (.iastore, 1, (0, 0, 0, 0, 0)), (.return_, 1, (0, 0, 0, 0, 0))]
theorem oo_BO_put_0 : jokL "ChessHouse$Board" lw_tbl jcl jtb 3 false prog_3_method_8_code 0 kk_BO_put_0 = true := by decide +kernel
def k_BO_put_0 : List jI := [(.aload_n 0, 1, (0, 0, 0, 0, 0)), (.getfield 7, 3, (10, 0, 660, 0, 0)), (.iload_n 1, 1, (1, 0, 0, 0, 0)), (.iload_n 2, 1, (2, 0, 0, 0, 0)), (.iastore, 1, (0, 0, 0, 0, 0)), (.aload_n 0, 1, (0, 0, 0, 0, 0)), (.getfield 16, 3, (10, 7, 676, 0, 0)), (.iload_n 1, 1, (1, 0, 0, 0, 0)), (.iconst 4, 1, (0, 0, 0, 4, 0)), (.ishr, 1, (0, 0, 0, 0, 0)), (.dup2, 1, (0, 0, 0, 0, 0)), (.laload, 1, (0, 0, 0, 0, 0)), (.iload_n 2, 1, (2, 0, 0, 0, 0)), (.i2l, 1, (0, 0, 0, 0, 0)), (.iload_n 1, 1, (1, 0, 0, 0, 0)), (.bipush 15, 2, (0, 0, 0, 15, 0)), (.iand, 1, (0, 0, 0, 0, 0)), (.iconst 2, 1, (0, 0, 0, 2, 0)), (.ishl, 1, (0, 0, 0, 0, 0)), (.lshl, 1, (0, 0, 0, 0, 0)), (.lxor, 1, (0, 0, 0, 0, 0)), (.lastore, 1, (0, 0, 0, 0, 0)), (.aload_n 0, 1, (0, 0, 0, 0, 0)), (.getfield 20, 3, (10, 8, 677, 0, 0)), (.iload_n 2, 1, (2, 0, 0, 0, 0)), (.iconst 3, 1, (0, 0, 0, 3, 0)), (.ishr, 1, (0, 0, 0, 0, 0)), (.dup2, 1, (0, 0, 0, 0, 0)), (.iaload, 1, (0, 0, 0, 0, 0)), (.aload_n 0, 1, (0, 0, 0, 0, 0)), (.getfield 29, 3, (10, 11, 680, 0, 0)), (.iload_n 2, 1, (2, 0, 0, 0, 0)), (.bipush 6, 2, (0, 0, 0, 6, 0)), (.ishl, 1, (0, 0, 0, 0, 0)), (.iload_n 1, 1, (1, 0, 0, 0, 0)), (.ior, 1, (0, 0, 0, 0, 0)), (.iaload, 1, (0, 0, 0, 0, 0)), (.iadd, 1, (0, 0, 0, 0, 0)), (.iastore, 1, (0, 0, 0, 0, 0)), (.aload_n 0, 1, (0, 0, 0, 0, 0)), (.getfield 23, 3, (10, 9, 678, 0, 0)), (.iload_n 2, 1, (2, 0, 0, 0, 0)), (.dup2, 1, (0, 0, 0, 0, 0)), (.iaload, 1, (0, 0, 0, 0, 0)), (.iconst 1, 1, (0, 0, 0, 1, 0)), (.iadd, 1, (0, 0, 0, 0, 0)), (.iastore, 1, (0, 0, 0, 0, 0)), (.iload_n 2, 1, (2, 0, 0, 0, 0)), (.bipush 7, 2, (0, 0, 0, 7, 0)), (.iand, 1, (0, 0, 0, 0, 0)), (.iconst 3, 1, (0, 0, 0, 3, 0)), (.if_icmp .ne 22, 3, (86, 0, 0, 0, 0)), (.aload_n 0, 1, (0, 0, 0, 0, 0)), (.getfield 26, 3, (10, 10, 679, 0, 0)), (.iload_n 1, 1, (1, 0, 0, 0, 0)), (.iload_n 1, 1, (1, 0, 0, 0, 0)), (.iconst 3, 1, (0, 0, 0, 3, 0)), (.ishr, 1, (0, 0, 0, 0, 0)), (.ixor, 1, (0, 0, 0, 0, 0)), (.iconst 1, 1, (0, 0, 0, 1, 0)), (.iand, 1, (0, 0, 0, 0, 0)), (.dup2, 1, (0, 0, 0, 0, 0)), (.iaload, 1, (0, 0, 0, 0, 0)), (.iconst 1, 1, (0, 0, 0, 1, 0)), (.iadd, 1, (0, 0, 0, 0, 0)), (.iastore, 1, (0, 0, 0, 0, 0)), (.goto 21, 3, (104, 0, 0, 0, 0))]
theorem o_BO_put_0 : jokL "ChessHouse$Board" lw_tbl jcl jtb 3 false prog_3_method_8_code 0 k_BO_put_0 = true := jok_sub oo_BO_put_0 0 67 rfl rfl
def k_BO_put_86 : List jI := [(.iload_n 2, 1, (2, 0, 0, 0, 0)), (.bipush 7, 2, (0, 0, 0, 7, 0)), (.iand, 1, (0, 0, 0, 0, 0)), (.bipush 6, 2, (0, 0, 0, 6, 0)), (.if_icmp .ne 12, 3, (104, 0, 0, 0, 0)), (.aload_n 0, 1, (0, 0, 0, 0, 0)), (.getfield 13, 3, (10, 1, 663, 0, 0)), (.iload_n 2, 1, (2, 0, 0, 0, 0)), (.iconst 3, 1, (0, 0, 0, 3, 0)), (.ishr, 1, (0, 0, 0, 0, 0)), (.iload_n 1, 1, (1, 0, 0, 0, 0)), (.iastore, 1, (0, 0, 0, 0, 0))]
theorem o_BO_put_86 : jokL "ChessHouse$Board" lw_tbl jcl jtb 3 false prog_3_method_8_code 86 k_BO_put_86 = true := jok_sub oo_BO_put_0 67 12 rfl rfl
theorem d_BO_put_104 : decode prog_3_method_8_code 104 = .ok (.return_, 1) := by decide +kernel
def y_BO_setFirst : jY := (⟨"ChessHouse$Board", "setFirst", "()V"⟩, prog_3_method_7_code, 2, none)
theorem m_BO_setFirst : jmth lw_tbl y_BO_setFirst 0 := ⟨jTA_in (wi := 643) (by decide +kernel) rfl, jTA_in (wi := 312) (by decide +kernel) rfl, by decide, by decide, by decide +kernel⟩
theorem i_BO_setFirst : Jvm.Cond.instanceMethod y_BO_setFirst.1 ∈ jTA lw_tbl := jTA_in (wi := 641) (by decide +kernel) rfl
theorem e_BO_setFirst : Jvm.Cond.selects y_BO_setFirst.1.cls y_BO_setFirst.1 y_BO_setFirst.1 ∈ jTA lw_tbl := jTA_in (wi := 642) (by decide +kernel) rfl
def kk_BO_setFirst_0 : List jI := [(.aload_n 0, 1, (0, 0, 0, 0, 0)), (.invokevirtual 96, 3, (0, 0, 0, 0, 0)), (.iconst 0, 1, (0, 0, 0, 0, 0)), (.istore_n 1, 1, (1, 0, 0, 0, 0)), (.iload_n 1, 1, (1, 0, 0, 0, 0)), (.bipush 8, 2, (0, 0, 0, 8, 0)), (.if_icmp .ge 54, 3, (63, 0, 0, 0, 0)), (.aload_n 0, 1, (0, 0, 0, 0, 0)), (.iload_n 1, 1, (1, 0, 0, 0, 0)), (.getstatic 99, 3, (1, 0, 654, 0, 0)), (.iload_n 1, 1, (1, 0, 0, 0, 0)), (.iaload, 1, (0, 0, 0, 0, 0)), (.invokevirtual 102, 3, (0, 0, 0, 0, 0)), (.aload_n 0, 1, (0, 0, 0, 0, 0)), (.bipush 8, 2, (0, 0, 0, 8, 0)), (.iload_n 1, 1, (1, 0, 0, 0, 0)), (.iadd, 1, (0, 0, 0, 0, 0)), (.iconst 1, 1, (0, 0, 0, 1, 0)), (.invokevirtual 102, 3, (0, 0, 0, 0, 0)), (.aload_n 0, 1, (0, 0, 0, 0, 0)), (.bipush 48, 2, (0, 0, 0, 48, 0)), (.iload_n 1, 1, (1, 0, 0, 0, 0)), (.iadd, 1, (0, 0, 0, 0, 0)), (.bipush 9, 2, (0, 0, 0, 9, 0)), (.invokevirtual 102, 3, (0, 0, 0, 0, 0)), (.aload_n 0, 1, (0, 0, 0, 0, 0)), (.bipush 56, 2, (0, 0, 0, 56, 0)), (.iload_n 1, 1, (1, 0, 0, 0, 0)), (.iadd, 1, (0, 0, 0, 0, 0)), (.bipush 8, 2, (0, 0, 0, 8, 0)), (.getstatic 99, 3, (1, 0, 654, 0, 0)), (.iload_n 1, 1, (1, 0, 0, 0, 0)), (.iaload, 1, (0, 0, 0, 0, 0)), (.iadd, 1, (0, 0, 0, 0, 0)), (.invokevirtual 102, 3, (0, 0, 0, 0, 0)), (.iinc 1 1, 3, (0, 0, 0, 1, 0)), (.goto (-54), 3, (6, 0, 0, 0, 0)), (.aload_n 0, 1, (0, 0, 0, 0, 0)), (.bipush 15, 2, (0, 0, 0, 15, 0)), (.putfield 81, 3, (10, 3, 669, 0, 0)), (.return_, 1, (0, 0, 0, 0, 0))]
theorem oo_BO_setFirst_0 : jokL "ChessHouse$Board" lw_tbl jcl jtb 2 false prog_3_method_7_code 0 kk_BO_setFirst_0 = true := by decide +kernel
def k_BO_setFirst_0 : List jI := [(.aload_n 0, 1, (0, 0, 0, 0, 0))]
theorem o_BO_setFirst_0 : jokL "ChessHouse$Board" lw_tbl jcl jtb 2 false prog_3_method_7_code 0 k_BO_setFirst_0 = true := jok_sub oo_BO_setFirst_0 0 1 rfl rfl
def k_BO_setFirst_4 : List jI := [(.iconst 0, 1, (0, 0, 0, 0, 0)), (.istore_n 1, 1, (1, 0, 0, 0, 0))]
theorem o_BO_setFirst_4 : jokL "ChessHouse$Board" lw_tbl jcl jtb 2 false prog_3_method_7_code 4 k_BO_setFirst_4 = true := jok_sub oo_BO_setFirst_0 2 2 rfl rfl
def k_BO_setFirst_6 : List jI := [(.iload_n 1, 1, (1, 0, 0, 0, 0)), (.bipush 8, 2, (0, 0, 0, 8, 0)), (.if_icmp .ge 54, 3, (63, 0, 0, 0, 0)), (.aload_n 0, 1, (0, 0, 0, 0, 0)), (.iload_n 1, 1, (1, 0, 0, 0, 0)), (.getstatic 99, 3, (1, 0, 654, 0, 0)), (.iload_n 1, 1, (1, 0, 0, 0, 0)), (.iaload, 1, (0, 0, 0, 0, 0))]
theorem o_BO_setFirst_6 : jokL "ChessHouse$Board" lw_tbl jcl jtb 2 false prog_3_method_7_code 6 k_BO_setFirst_6 = true := jok_sub oo_BO_setFirst_0 4 8 rfl rfl
def k_BO_setFirst_22 : List jI := [(.aload_n 0, 1, (0, 0, 0, 0, 0)), (.bipush 8, 2, (0, 0, 0, 8, 0)), (.iload_n 1, 1, (1, 0, 0, 0, 0)), (.iadd, 1, (0, 0, 0, 0, 0)), (.iconst 1, 1, (0, 0, 0, 1, 0))]
theorem o_BO_setFirst_22 : jokL "ChessHouse$Board" lw_tbl jcl jtb 2 false prog_3_method_7_code 22 k_BO_setFirst_22 = true := jok_sub oo_BO_setFirst_0 13 5 rfl rfl
def k_BO_setFirst_31 : List jI := [(.aload_n 0, 1, (0, 0, 0, 0, 0)), (.bipush 48, 2, (0, 0, 0, 48, 0)), (.iload_n 1, 1, (1, 0, 0, 0, 0)), (.iadd, 1, (0, 0, 0, 0, 0)), (.bipush 9, 2, (0, 0, 0, 9, 0))]
theorem o_BO_setFirst_31 : jokL "ChessHouse$Board" lw_tbl jcl jtb 2 false prog_3_method_7_code 31 k_BO_setFirst_31 = true := jok_sub oo_BO_setFirst_0 19 5 rfl rfl
def k_BO_setFirst_41 : List jI := [(.aload_n 0, 1, (0, 0, 0, 0, 0)), (.bipush 56, 2, (0, 0, 0, 56, 0)), (.iload_n 1, 1, (1, 0, 0, 0, 0)), (.iadd, 1, (0, 0, 0, 0, 0)), (.bipush 8, 2, (0, 0, 0, 8, 0)), (.getstatic 99, 3, (1, 0, 654, 0, 0)), (.iload_n 1, 1, (1, 0, 0, 0, 0)), (.iaload, 1, (0, 0, 0, 0, 0)), (.iadd, 1, (0, 0, 0, 0, 0))]
theorem o_BO_setFirst_41 : jokL "ChessHouse$Board" lw_tbl jcl jtb 2 false prog_3_method_7_code 41 k_BO_setFirst_41 = true := jok_sub oo_BO_setFirst_0 25 9 rfl rfl
def k_BO_setFirst_57 : List jI := [(.iinc 1 1, 3, (0, 0, 0, 1, 0)), (.goto (-54), 3, (6, 0, 0, 0, 0))]
theorem o_BO_setFirst_57 : jokL "ChessHouse$Board" lw_tbl jcl jtb 2 false prog_3_method_7_code 57 k_BO_setFirst_57 = true := jok_sub oo_BO_setFirst_0 35 2 rfl rfl
def k_BO_setFirst_63 : List jI := [(.aload_n 0, 1, (0, 0, 0, 0, 0)), (.bipush 15, 2, (0, 0, 0, 15, 0)), (.putfield 81, 3, (10, 3, 669, 0, 0))]
theorem o_BO_setFirst_63 : jokL "ChessHouse$Board" lw_tbl jcl jtb 2 false prog_3_method_7_code 63 k_BO_setFirst_63 = true := jok_sub oo_BO_setFirst_0 37 3 rfl rfl
theorem d_BO_setFirst_1 : decode prog_3_method_7_code 1 = .ok (.invokevirtual 96, 3) := by decide +kernel
theorem q_BO_setFirst_1 : jlm lw_tbl 644 "ChessHouse$Board" 96 ⟨"ChessHouse$Board", "clear", "()V"⟩ = true := by decide +kernel
theorem d_BO_setFirst_19 : decode prog_3_method_7_code 19 = .ok (.invokevirtual 102, 3) := by decide +kernel
theorem q_BO_setFirst_19 : jlm lw_tbl 656 "ChessHouse$Board" 102 ⟨"ChessHouse$Board", "put", "(II)V"⟩ = true := by decide +kernel
theorem d_BO_setFirst_28 : decode prog_3_method_7_code 28 = .ok (.invokevirtual 102, 3) := by decide +kernel
theorem q_BO_setFirst_28 : jlm lw_tbl 656 "ChessHouse$Board" 102 ⟨"ChessHouse$Board", "put", "(II)V"⟩ = true := by decide +kernel
theorem d_BO_setFirst_38 : decode prog_3_method_7_code 38 = .ok (.invokevirtual 102, 3) := by decide +kernel
theorem q_BO_setFirst_38 : jlm lw_tbl 656 "ChessHouse$Board" 102 ⟨"ChessHouse$Board", "put", "(II)V"⟩ = true := by decide +kernel
theorem d_BO_setFirst_54 : decode prog_3_method_7_code 54 = .ok (.invokevirtual 102, 3) := by decide +kernel
theorem q_BO_setFirst_54 : jlm lw_tbl 656 "ChessHouse$Board" 102 ⟨"ChessHouse$Board", "put", "(II)V"⟩ = true := by decide +kernel
theorem d_BO_setFirst_69 : decode prog_3_method_7_code 69 = .ok (.return_, 1) := by decide +kernel
def y_BO_init : jY := (⟨"ChessHouse$Board", "<init>", "()V"⟩, prog_3_method_1_code, 3, none)
theorem m_BO_init : jmth lw_tbl y_BO_init 0 := ⟨jTA_in (wi := 617) (by decide +kernel) rfl, jTA_in (wi := 312) (by decide +kernel) rfl, by decide, by decide, by decide +kernel⟩
theorem i_BO_init : Jvm.Cond.instanceMethod y_BO_init.1 ∈ jTA lw_tbl := jTA_in (wi := 616) (by decide +kernel) rfl
def kk_BO_init_0 : List jI := [(.aload_n 0, 1, (0, 0, 0, 0, 0)), (.invokespecial 1, 3, (0, 0, 0, 0, 0)), (.aload_n 0, 1, (0, 0, 0, 0, 0)), (.bipush 64, 2, (0, 0, 0, 64, 0)), (.newarray .int, 2, (0, 0, 0, 0, 0)), (.putfield 7, 3, (10, 0, 660, 3, 0)), (.aload_n 0, 1, (0, 0, 0, 0, 0)), (.iconst 2, 1, (0, 0, 0, 2, 0)), (.newarray .int, 2, (0, 0, 0, 0, 0)), (.putfield 13, 3, (10, 1, 663, 3, 0)), (.aload_n 0, 1, (0, 0, 0, 0, 0)), (.iconst 4, 1, (0, 0, 0, 4, 0)), (.newarray .long, 2, (0, 0, 0, 0, 0)), (.putfield 16, 3, (10, 7, 676, 3, 0)), (.aload_n 0, 1, (0, 0, 0, 0, 0)), (.iconst 2, 1, (0, 0, 0, 2, 0)), (.newarray .int, 2, (0, 0, 0, 0, 0)), (.putfield 20, 3, (10, 8, 677, 3, 0)), (.aload_n 0, 1, (0, 0, 0, 0, 0)), (.bipush 16, 2, (0, 0, 0, 16, 0)), (.newarray .int, 2, (0, 0, 0, 0, 0)), (.putfield 23, 3, (10, 9, 678, 3, 0)), (.aload_n 0, 1, (0, 0, 0, 0, 0)), (.iconst 2, 1, (0, 0, 0, 2, 0)), (.newarray .int, 2, (0, 0, 0, 0, 0)), (.putfield 26, 3, (10, 10, 679, 3, 0)), (.aload_n 0, 1, (0, 0, 0, 0, 0)), (.sipush 1024, 3, (0, 0, 0, 1024, 0)), (.newarray .int, 2, (0, 0, 0, 0, 0)), (.putfield 29, 3, (10, 11, 680, 3, 0)), (.aload_n 0, 1, (0, 0, 0, 0, 0)), (.sipush 512, 3, (0, 0, 0, 512, 0)), (.newarray .int, 2, (0, 0, 0, 0, 0)), (.putfield 32, 3, (10, 12, 681, 3, 0)), (.aload_n 0, 1, (0, 0, 0, 0, 0)), (.sipush 512, 3, (0, 0, 0, 512, 0)), (.newarray .int, 2, (0, 0, 0, 0, 0)), (.putfield 35, 3, (10, 13, 682, 3, 0)), (.aload_n 0, 1, (0, 0, 0, 0, 0)), (.sipush 1280, 3, (0, 0, 0, 1280, 0)), (.newarray .long, 2, (0, 0, 0, 0, 0)), (.putfield 38, 3, (10, 14, 683, 3, 0)), (.aload_n 0, 1, (0, 0, 0, 0, 0)), (.sipush 320, 3, (0, 0, 0, 320, 0)), (.newarray .int, 2, (0, 0, 0, 0, 0)), (.putfield 41, 3, (10, 15, 684, 3, 0)), (.iconst 0, 1, (0, 0, 0, 0, 0)), (.istore_n 1, 1, (1, 0, 0, 0, 0)), (.iload_n 1, 1, (1, 0, 0, 0, 0)), (.bipush 64, 2, (0, 0, 0, 64, 0)), (.if_icmp .ge 78, 3, (176, 0, 0, 0, 0)), (.iconst 0, 1, (0, 0, 0, 0, 0)), (.istore_n 2, 1, (2, 0, 0, 0, 0)), (.iload_n 2, 1, (2, 0, 0, 0, 0)), (.bipush 8, 2, (0, 0, 0, 8, 0)), (.if_icmp .ge 29, 3, (135, 0, 0, 0, 0)), (.aload_n 0, 1, (0, 0, 0, 0, 0)), (.getfield 32, 3, (10, 12, 681, 0, 0)), (.iload_n 1, 1, (1, 0, 0, 0, 0)), (.bipush 8, 2, (0, 0, 0, 8, 0)), (.imul, 1, (0, 0, 0, 0, 0)), (.iload_n 2, 1, (2, 0, 0, 0, 0)), (.iadd, 1, (0, 0, 0, 0, 0)), (.iload_n 1, 1, (1, 0, 0, 0, 0)), (.getstatic 44, 3, (0, 0, 619, 0, 0)), (.iload_n 2, 1, (2, 0, 0, 0, 0)), (.iaload, 1, (0, 0, 0, 0, 0)), (.invokestatic 47, 3, (0, 0, 0, 0, 0)), (.iastore, 1, (0, 0, 0, 0, 0)), (.iinc 2 1, 3, (0, 0, 0, 1, 0)), (.goto (-29), 3, (103, 0, 0, 0, 0)), (.aload_n 0, 1, (0, 0, 0, 0, 0)), (.iload_n 1, 1, (1, 0, 0, 0, 0)), (.invokevirtual 51, 3, (0, 0, 0, 0, 0)), (.iconst 1, 1, (0, 0, 0, 1, 0)), (.istore_n 2, 1, (2, 0, 0, 0, 0)), (.iload_n 2, 1, (2, 0, 0, 0, 0)), (.bipush 15, 2, (0, 0, 0, 15, 0)), (.if_icmp .ge 25, 3, (170, 0, 0, 0, 0)), (.aload_n 0, 1, (0, 0, 0, 0, 0)), (.getfield 29, 3, (10, 11, 680, 0, 0)), (.iload_n 2, 1, (2, 0, 0, 0, 0)), (.bipush 64, 2, (0, 0, 0, 64, 0)), (.imul, 1, (0, 0, 0, 0, 0)), (.iload_n 1, 1, (1, 0, 0, 0, 0)), (.iadd, 1, (0, 0, 0, 0, 0)), (.iload_n 2, 1, (2, 0, 0, 0, 0)), (.iload_n 1, 1, (1, 0, 0, 0, 0)), (.invokestatic 55, 3, (0, 0, 0, 0, 0)), (.iastore, 1, (0, 0, 0, 0, 0)), (.iinc 2 1, 3, (0, 0, 0, 1, 0)), (.goto (-25), 3, (142, 0, 0, 0, 0)), (.iinc 1 1, 3, (0, 0, 0, 1, 0)), (.goto (-78), 3, (95, 0, 0, 0, 0)), (.aload_n 0, 1, (0, 0, 0, 0, 0)), (.invokevirtual 58, 3, (0, 0, 0, 0, 0)), (.return_, 1, (0, 0, 0, 0, 0))]
theorem oo_BO_init_0 : jokL "ChessHouse$Board" lw_tbl jcl jtb 3 true prog_3_method_1_code 0 kk_BO_init_0 = true := by decide +kernel
def k_BO_init_0 : List jI := [(.aload_n 0, 1, (0, 0, 0, 0, 0))]
theorem o_BO_init_0 : jokL "ChessHouse$Board" lw_tbl jcl jtb 3 true prog_3_method_1_code 0 k_BO_init_0 = true := jok_sub oo_BO_init_0 0 1 rfl rfl
def k_BO_init_4 : List jI := [(.aload_n 0, 1, (0, 0, 0, 0, 0)), (.bipush 64, 2, (0, 0, 0, 64, 0))]
theorem o_BO_init_4 : jokL "ChessHouse$Board" lw_tbl jcl jtb 3 true prog_3_method_1_code 4 k_BO_init_4 = true := jok_sub oo_BO_init_0 2 2 rfl rfl
def k_BO_init_9 : List jI := [(.putfield 7, 3, (10, 0, 660, 3, 0)), (.aload_n 0, 1, (0, 0, 0, 0, 0)), (.iconst 2, 1, (0, 0, 0, 2, 0))]
theorem o_BO_init_9 : jokL "ChessHouse$Board" lw_tbl jcl jtb 3 true prog_3_method_1_code 9 k_BO_init_9 = true := jok_sub oo_BO_init_0 5 3 rfl rfl
def k_BO_init_16 : List jI := [(.putfield 13, 3, (10, 1, 663, 3, 0)), (.aload_n 0, 1, (0, 0, 0, 0, 0)), (.iconst 4, 1, (0, 0, 0, 4, 0))]
theorem o_BO_init_16 : jokL "ChessHouse$Board" lw_tbl jcl jtb 3 true prog_3_method_1_code 16 k_BO_init_16 = true := jok_sub oo_BO_init_0 9 3 rfl rfl
def k_BO_init_23 : List jI := [(.putfield 16, 3, (10, 7, 676, 3, 0)), (.aload_n 0, 1, (0, 0, 0, 0, 0)), (.iconst 2, 1, (0, 0, 0, 2, 0))]
theorem o_BO_init_23 : jokL "ChessHouse$Board" lw_tbl jcl jtb 3 true prog_3_method_1_code 23 k_BO_init_23 = true := jok_sub oo_BO_init_0 13 3 rfl rfl
def k_BO_init_30 : List jI := [(.putfield 20, 3, (10, 8, 677, 3, 0)), (.aload_n 0, 1, (0, 0, 0, 0, 0)), (.bipush 16, 2, (0, 0, 0, 16, 0))]
theorem o_BO_init_30 : jokL "ChessHouse$Board" lw_tbl jcl jtb 3 true prog_3_method_1_code 30 k_BO_init_30 = true := jok_sub oo_BO_init_0 17 3 rfl rfl
def k_BO_init_38 : List jI := [(.putfield 23, 3, (10, 9, 678, 3, 0)), (.aload_n 0, 1, (0, 0, 0, 0, 0)), (.iconst 2, 1, (0, 0, 0, 2, 0))]
theorem o_BO_init_38 : jokL "ChessHouse$Board" lw_tbl jcl jtb 3 true prog_3_method_1_code 38 k_BO_init_38 = true := jok_sub oo_BO_init_0 21 3 rfl rfl
def k_BO_init_45 : List jI := [(.putfield 26, 3, (10, 10, 679, 3, 0)), (.aload_n 0, 1, (0, 0, 0, 0, 0)), (.sipush 1024, 3, (0, 0, 0, 1024, 0))]
theorem o_BO_init_45 : jokL "ChessHouse$Board" lw_tbl jcl jtb 3 true prog_3_method_1_code 45 k_BO_init_45 = true := jok_sub oo_BO_init_0 25 3 rfl rfl
def k_BO_init_54 : List jI := [(.putfield 29, 3, (10, 11, 680, 3, 0)), (.aload_n 0, 1, (0, 0, 0, 0, 0)), (.sipush 512, 3, (0, 0, 0, 512, 0))]
theorem o_BO_init_54 : jokL "ChessHouse$Board" lw_tbl jcl jtb 3 true prog_3_method_1_code 54 k_BO_init_54 = true := jok_sub oo_BO_init_0 29 3 rfl rfl
def k_BO_init_63 : List jI := [(.putfield 32, 3, (10, 12, 681, 3, 0)), (.aload_n 0, 1, (0, 0, 0, 0, 0)), (.sipush 512, 3, (0, 0, 0, 512, 0))]
theorem o_BO_init_63 : jokL "ChessHouse$Board" lw_tbl jcl jtb 3 true prog_3_method_1_code 63 k_BO_init_63 = true := jok_sub oo_BO_init_0 33 3 rfl rfl
def k_BO_init_72 : List jI := [(.putfield 35, 3, (10, 13, 682, 3, 0)), (.aload_n 0, 1, (0, 0, 0, 0, 0)), (.sipush 1280, 3, (0, 0, 0, 1280, 0))]
theorem o_BO_init_72 : jokL "ChessHouse$Board" lw_tbl jcl jtb 3 true prog_3_method_1_code 72 k_BO_init_72 = true := jok_sub oo_BO_init_0 37 3 rfl rfl
def k_BO_init_81 : List jI := [(.putfield 38, 3, (10, 14, 683, 3, 0)), (.aload_n 0, 1, (0, 0, 0, 0, 0)), (.sipush 320, 3, (0, 0, 0, 320, 0))]
theorem o_BO_init_81 : jokL "ChessHouse$Board" lw_tbl jcl jtb 3 true prog_3_method_1_code 81 k_BO_init_81 = true := jok_sub oo_BO_init_0 41 3 rfl rfl
def k_BO_init_90 : List jI := [(.putfield 41, 3, (10, 15, 684, 3, 0)), (.iconst 0, 1, (0, 0, 0, 0, 0)), (.istore_n 1, 1, (1, 0, 0, 0, 0))]
theorem o_BO_init_90 : jokL "ChessHouse$Board" lw_tbl jcl jtb 3 true prog_3_method_1_code 90 k_BO_init_90 = true := jok_sub oo_BO_init_0 45 3 rfl rfl
def k_BO_init_95 : List jI := [(.iload_n 1, 1, (1, 0, 0, 0, 0)), (.bipush 64, 2, (0, 0, 0, 64, 0)), (.if_icmp .ge 78, 3, (176, 0, 0, 0, 0)), (.iconst 0, 1, (0, 0, 0, 0, 0)), (.istore_n 2, 1, (2, 0, 0, 0, 0))]
theorem o_BO_init_95 : jokL "ChessHouse$Board" lw_tbl jcl jtb 3 true prog_3_method_1_code 95 k_BO_init_95 = true := jok_sub oo_BO_init_0 48 5 rfl rfl
def k_BO_init_103 : List jI := [(.iload_n 2, 1, (2, 0, 0, 0, 0)), (.bipush 8, 2, (0, 0, 0, 8, 0)), (.if_icmp .ge 29, 3, (135, 0, 0, 0, 0)), (.aload_n 0, 1, (0, 0, 0, 0, 0)), (.getfield 32, 3, (10, 12, 681, 0, 0)), (.iload_n 1, 1, (1, 0, 0, 0, 0)), (.bipush 8, 2, (0, 0, 0, 8, 0)), (.imul, 1, (0, 0, 0, 0, 0)), (.iload_n 2, 1, (2, 0, 0, 0, 0)), (.iadd, 1, (0, 0, 0, 0, 0)), (.iload_n 1, 1, (1, 0, 0, 0, 0)), (.getstatic 44, 3, (0, 0, 619, 0, 0)), (.iload_n 2, 1, (2, 0, 0, 0, 0)), (.iaload, 1, (0, 0, 0, 0, 0))]
theorem o_BO_init_103 : jokL "ChessHouse$Board" lw_tbl jcl jtb 3 true prog_3_method_1_code 103 k_BO_init_103 = true := jok_sub oo_BO_init_0 53 14 rfl rfl
def k_BO_init_128 : List jI := [(.iastore, 1, (0, 0, 0, 0, 0)), (.iinc 2 1, 3, (0, 0, 0, 1, 0)), (.goto (-29), 3, (103, 0, 0, 0, 0))]
theorem o_BO_init_128 : jokL "ChessHouse$Board" lw_tbl jcl jtb 3 true prog_3_method_1_code 128 k_BO_init_128 = true := jok_sub oo_BO_init_0 68 3 rfl rfl
def k_BO_init_135 : List jI := [(.aload_n 0, 1, (0, 0, 0, 0, 0)), (.iload_n 1, 1, (1, 0, 0, 0, 0))]
theorem o_BO_init_135 : jokL "ChessHouse$Board" lw_tbl jcl jtb 3 true prog_3_method_1_code 135 k_BO_init_135 = true := jok_sub oo_BO_init_0 71 2 rfl rfl
def k_BO_init_140 : List jI := [(.iconst 1, 1, (0, 0, 0, 1, 0)), (.istore_n 2, 1, (2, 0, 0, 0, 0))]
theorem o_BO_init_140 : jokL "ChessHouse$Board" lw_tbl jcl jtb 3 true prog_3_method_1_code 140 k_BO_init_140 = true := jok_sub oo_BO_init_0 74 2 rfl rfl
def k_BO_init_142 : List jI := [(.iload_n 2, 1, (2, 0, 0, 0, 0)), (.bipush 15, 2, (0, 0, 0, 15, 0)), (.if_icmp .ge 25, 3, (170, 0, 0, 0, 0)), (.aload_n 0, 1, (0, 0, 0, 0, 0)), (.getfield 29, 3, (10, 11, 680, 0, 0)), (.iload_n 2, 1, (2, 0, 0, 0, 0)), (.bipush 64, 2, (0, 0, 0, 64, 0)), (.imul, 1, (0, 0, 0, 0, 0)), (.iload_n 1, 1, (1, 0, 0, 0, 0)), (.iadd, 1, (0, 0, 0, 0, 0)), (.iload_n 2, 1, (2, 0, 0, 0, 0)), (.iload_n 1, 1, (1, 0, 0, 0, 0))]
theorem o_BO_init_142 : jokL "ChessHouse$Board" lw_tbl jcl jtb 3 true prog_3_method_1_code 142 k_BO_init_142 = true := jok_sub oo_BO_init_0 76 12 rfl rfl
def k_BO_init_163 : List jI := [(.iastore, 1, (0, 0, 0, 0, 0)), (.iinc 2 1, 3, (0, 0, 0, 1, 0)), (.goto (-25), 3, (142, 0, 0, 0, 0))]
theorem o_BO_init_163 : jokL "ChessHouse$Board" lw_tbl jcl jtb 3 true prog_3_method_1_code 163 k_BO_init_163 = true := jok_sub oo_BO_init_0 89 3 rfl rfl
def k_BO_init_170 : List jI := [(.iinc 1 1, 3, (0, 0, 0, 1, 0)), (.goto (-78), 3, (95, 0, 0, 0, 0))]
theorem o_BO_init_170 : jokL "ChessHouse$Board" lw_tbl jcl jtb 3 true prog_3_method_1_code 170 k_BO_init_170 = true := jok_sub oo_BO_init_0 92 2 rfl rfl
def k_BO_init_176 : List jI := [(.aload_n 0, 1, (0, 0, 0, 0, 0))]
theorem o_BO_init_176 : jokL "ChessHouse$Board" lw_tbl jcl jtb 3 true prog_3_method_1_code 176 k_BO_init_176 = true := jok_sub oo_BO_init_0 94 1 rfl rfl
theorem d_BO_init_1 : decode prog_3_method_1_code 1 = .ok (.invokespecial 1, 3) := by decide +kernel
theorem d_BO_init_7 : decode prog_3_method_1_code 7 = .ok (.newarray .int, 2) := by decide +kernel
theorem d_BO_init_14 : decode prog_3_method_1_code 14 = .ok (.newarray .int, 2) := by decide +kernel
theorem d_BO_init_21 : decode prog_3_method_1_code 21 = .ok (.newarray .long, 2) := by decide +kernel
theorem d_BO_init_28 : decode prog_3_method_1_code 28 = .ok (.newarray .int, 2) := by decide +kernel
theorem d_BO_init_36 : decode prog_3_method_1_code 36 = .ok (.newarray .int, 2) := by decide +kernel
theorem d_BO_init_43 : decode prog_3_method_1_code 43 = .ok (.newarray .int, 2) := by decide +kernel
theorem d_BO_init_52 : decode prog_3_method_1_code 52 = .ok (.newarray .int, 2) := by decide +kernel
theorem d_BO_init_61 : decode prog_3_method_1_code 61 = .ok (.newarray .int, 2) := by decide +kernel
theorem d_BO_init_70 : decode prog_3_method_1_code 70 = .ok (.newarray .int, 2) := by decide +kernel
theorem d_BO_init_79 : decode prog_3_method_1_code 79 = .ok (.newarray .long, 2) := by decide +kernel
theorem d_BO_init_88 : decode prog_3_method_1_code 88 = .ok (.newarray .int, 2) := by decide +kernel
theorem d_BO_init_125 : decode prog_3_method_1_code 125 = .ok (.invokestatic 47, 3) := by decide +kernel
theorem q_BO_init_125 : jlm lw_tbl 621 "ChessHouse$Board" 47 ⟨"ChessHouse$Board", "stepsToEdge", "(II)I"⟩ = true := by decide +kernel
theorem d_BO_init_137 : decode prog_3_method_1_code 137 = .ok (.invokevirtual 51, 3) := by decide +kernel
theorem q_BO_init_137 : jlm lw_tbl 624 "ChessHouse$Board" 51 ⟨"ChessHouse$Board", "fillHops", "(I)V"⟩ = true := by decide +kernel
theorem d_BO_init_160 : decode prog_3_method_1_code 160 = .ok (.invokestatic 55, 3) := by decide +kernel
theorem q_BO_init_160 : jlm lw_tbl 634 "ChessHouse$Board" 55 ⟨"ChessHouse$Board", "worthOf", "(II)I"⟩ = true := by decide +kernel
theorem d_BO_init_177 : decode prog_3_method_1_code 177 = .ok (.invokevirtual 58, 3) := by decide +kernel
theorem q_BO_init_177 : jlm lw_tbl 640 "ChessHouse$Board" 58 ⟨"ChessHouse$Board", "setFirst", "()V"⟩ = true := by decide +kernel
theorem d_BO_init_180 : decode prog_3_method_1_code 180 = .ok (.return_, 1) := by decide +kernel
def y_GA_init : jY := (⟨"ChessHouse$Game", "<init>", "()V"⟩, prog_7_method_1_code, 1, none)
theorem m_GA_init : jmth lw_tbl y_GA_init 0 := ⟨jTA_in (wi := 611) (by decide +kernel) rfl, jTA_in (wi := 311) (by decide +kernel) rfl, by decide, by decide, by decide +kernel⟩
theorem i_GA_init : Jvm.Cond.instanceMethod y_GA_init.1 ∈ jTA lw_tbl := jTA_in (wi := 610) (by decide +kernel) rfl
def kk_GA_init_0 : List jI := [(.aload_n 0, 1, (0, 0, 0, 0, 0)), (.invokespecial 3, 3, (0, 0, 0, 0, 0)), (.aload_n 0, 1, (0, 0, 0, 0, 0)), (.new 9, 3, (0, 0, 0, 0, 0)), (.dup, 1, (0, 0, 0, 0, 0)), (.invokespecial 11, 3, (0, 0, 0, 0, 0)), (.putfield 12, 3, (9, 0, 722, 3, 0)), (.aload_n 0, 1, (0, 0, 0, 0, 0)), (.sipush 301, 3, (0, 0, 0, 301, 0)), (.newarray .int, 2, (0, 0, 0, 0, 0)), (.putfield 18, 3, (9, 3, 733, 3, 0)), (.aload_n 0, 1, (0, 0, 0, 0, 0)), (.sipush 301, 3, (0, 0, 0, 301, 0)), (.newarray .int, 2, (0, 0, 0, 0, 0)), (.putfield 22, 3, (9, 4, 736, 3, 0)), (.aload_n 0, 1, (0, 0, 0, 0, 0)), (.sipush 301, 3, (0, 0, 0, 301, 0)), (.newarray .int, 2, (0, 0, 0, 0, 0)), (.putfield 25, 3, (9, 5, 739, 3, 0)), (.aload_n 0, 1, (0, 0, 0, 0, 0)), (.sipush 301, 3, (0, 0, 0, 301, 0)), (.newarray .int, 2, (0, 0, 0, 0, 0)), (.putfield 28, 3, (9, 6, 742, 3, 0)), (.aload_n 0, 1, (0, 0, 0, 0, 0)), (.sipush 301, 3, (0, 0, 0, 301, 0)), (.newarray .long, 2, (0, 0, 0, 0, 0)), (.putfield 31, 3, (9, 7, 745, 3, 0)), (.aload_n 0, 1, (0, 0, 0, 0, 0)), (.sipush 1204, 3, (0, 0, 0, 1204, 0)), (.newarray .int, 2, (0, 0, 0, 0, 0)), (.putfield 35, 3, (9, 8, 747, 3, 0)), (.aload_n 0, 1, (0, 0, 0, 0, 0)), (.sipush 301, 3, (0, 0, 0, 301, 0)), (.newarray .int, 2, (0, 0, 0, 0, 0)), (.putfield 38, 3, (9, 9, 749, 3, 0)), (.aload_n 0, 1, (0, 0, 0, 0, 0)), (.ldc 41, 2, (0, 0, 721, 60200, 0)), (.newarray .byte, 2, (0, 0, 0, 0, 0)), (.putfield 42, 3, (9, 10, 752, 3, 0)), (.aload_n 0, 1, (0, 0, 0, 0, 0)), (.sipush 301, 3, (0, 0, 0, 301, 0)), (.newarray .int, 2, (0, 0, 0, 0, 0)), (.putfield 46, 3, (9, 11, 754, 3, 0)), (.aload_n 0, 1, (0, 0, 0, 0, 0)), (.sipush 301, 3, (0, 0, 0, 301, 0)), (.newarray .int, 2, (0, 0, 0, 0, 0)), (.putfield 49, 3, (9, 12, 757, 3, 0)), (.aload_n 0, 1, (0, 0, 0, 0, 0)), (.bipush 96, 2, (0, 0, 0, 96, 0)), (.newarray .byte, 2, (0, 0, 0, 0, 0)), (.putfield 52, 3, (9, 14, 762, 3, 0)), (.aload_n 0, 1, (0, 0, 0, 0, 0)), (.bipush 8, 2, (0, 0, 0, 8, 0)), (.newarray .int, 2, (0, 0, 0, 0, 0)), (.putfield 55, 3, (9, 15, 764, 3, 0)), (.aload_n 0, 1, (0, 0, 0, 0, 0)), (.sipush 768, 3, (0, 0, 0, 768, 0)), (.newarray .byte, 2, (0, 0, 0, 0, 0)), (.putfield 58, 3, (9, 16, 766, 3, 0)), (.aload_n 0, 1, (0, 0, 0, 0, 0)), (.bipush 8, 2, (0, 0, 0, 8, 0)), (.newarray .int, 2, (0, 0, 0, 0, 0)), (.putfield 61, 3, (9, 17, 768, 3, 0)), (.return_, 1, (0, 0, 0, 0, 0))]
theorem oo_GA_init_0 : jokL "ChessHouse$Game" lw_tbl jcl jtb 1 true prog_7_method_1_code 0 kk_GA_init_0 = true := by decide +kernel
def k_GA_init_0 : List jI := [(.aload_n 0, 1, (0, 0, 0, 0, 0))]
theorem o_GA_init_0 : jokL "ChessHouse$Game" lw_tbl jcl jtb 1 true prog_7_method_1_code 0 k_GA_init_0 = true := jok_sub oo_GA_init_0 0 1 rfl rfl
def k_GA_init_4 : List jI := [(.aload_n 0, 1, (0, 0, 0, 0, 0))]
theorem o_GA_init_4 : jokL "ChessHouse$Game" lw_tbl jcl jtb 1 true prog_7_method_1_code 4 k_GA_init_4 = true := jok_sub oo_GA_init_0 2 1 rfl rfl
def k_GA_init_8 : List jI := [(.dup, 1, (0, 0, 0, 0, 0))]
theorem o_GA_init_8 : jokL "ChessHouse$Game" lw_tbl jcl jtb 1 true prog_7_method_1_code 8 k_GA_init_8 = true := jok_sub oo_GA_init_0 4 1 rfl rfl
def k_GA_init_12 : List jI := [(.putfield 12, 3, (9, 0, 722, 3, 0)), (.aload_n 0, 1, (0, 0, 0, 0, 0)), (.sipush 301, 3, (0, 0, 0, 301, 0))]
theorem o_GA_init_12 : jokL "ChessHouse$Game" lw_tbl jcl jtb 1 true prog_7_method_1_code 12 k_GA_init_12 = true := jok_sub oo_GA_init_0 6 3 rfl rfl
def k_GA_init_21 : List jI := [(.putfield 18, 3, (9, 3, 733, 3, 0)), (.aload_n 0, 1, (0, 0, 0, 0, 0)), (.sipush 301, 3, (0, 0, 0, 301, 0))]
theorem o_GA_init_21 : jokL "ChessHouse$Game" lw_tbl jcl jtb 1 true prog_7_method_1_code 21 k_GA_init_21 = true := jok_sub oo_GA_init_0 10 3 rfl rfl
def k_GA_init_30 : List jI := [(.putfield 22, 3, (9, 4, 736, 3, 0)), (.aload_n 0, 1, (0, 0, 0, 0, 0)), (.sipush 301, 3, (0, 0, 0, 301, 0))]
theorem o_GA_init_30 : jokL "ChessHouse$Game" lw_tbl jcl jtb 1 true prog_7_method_1_code 30 k_GA_init_30 = true := jok_sub oo_GA_init_0 14 3 rfl rfl
def k_GA_init_39 : List jI := [(.putfield 25, 3, (9, 5, 739, 3, 0)), (.aload_n 0, 1, (0, 0, 0, 0, 0)), (.sipush 301, 3, (0, 0, 0, 301, 0))]
theorem o_GA_init_39 : jokL "ChessHouse$Game" lw_tbl jcl jtb 1 true prog_7_method_1_code 39 k_GA_init_39 = true := jok_sub oo_GA_init_0 18 3 rfl rfl
def k_GA_init_48 : List jI := [(.putfield 28, 3, (9, 6, 742, 3, 0)), (.aload_n 0, 1, (0, 0, 0, 0, 0)), (.sipush 301, 3, (0, 0, 0, 301, 0))]
theorem o_GA_init_48 : jokL "ChessHouse$Game" lw_tbl jcl jtb 1 true prog_7_method_1_code 48 k_GA_init_48 = true := jok_sub oo_GA_init_0 22 3 rfl rfl
def k_GA_init_57 : List jI := [(.putfield 31, 3, (9, 7, 745, 3, 0)), (.aload_n 0, 1, (0, 0, 0, 0, 0)), (.sipush 1204, 3, (0, 0, 0, 1204, 0))]
theorem o_GA_init_57 : jokL "ChessHouse$Game" lw_tbl jcl jtb 1 true prog_7_method_1_code 57 k_GA_init_57 = true := jok_sub oo_GA_init_0 26 3 rfl rfl
def k_GA_init_66 : List jI := [(.putfield 35, 3, (9, 8, 747, 3, 0)), (.aload_n 0, 1, (0, 0, 0, 0, 0)), (.sipush 301, 3, (0, 0, 0, 301, 0))]
theorem o_GA_init_66 : jokL "ChessHouse$Game" lw_tbl jcl jtb 1 true prog_7_method_1_code 66 k_GA_init_66 = true := jok_sub oo_GA_init_0 30 3 rfl rfl
def k_GA_init_75 : List jI := [(.putfield 38, 3, (9, 9, 749, 3, 0)), (.aload_n 0, 1, (0, 0, 0, 0, 0)), (.ldc 41, 2, (0, 0, 721, 60200, 0))]
theorem o_GA_init_75 : jokL "ChessHouse$Game" lw_tbl jcl jtb 1 true prog_7_method_1_code 75 k_GA_init_75 = true := jok_sub oo_GA_init_0 34 3 rfl rfl
def k_GA_init_83 : List jI := [(.putfield 42, 3, (9, 10, 752, 3, 0)), (.aload_n 0, 1, (0, 0, 0, 0, 0)), (.sipush 301, 3, (0, 0, 0, 301, 0))]
theorem o_GA_init_83 : jokL "ChessHouse$Game" lw_tbl jcl jtb 1 true prog_7_method_1_code 83 k_GA_init_83 = true := jok_sub oo_GA_init_0 38 3 rfl rfl
def k_GA_init_92 : List jI := [(.putfield 46, 3, (9, 11, 754, 3, 0)), (.aload_n 0, 1, (0, 0, 0, 0, 0)), (.sipush 301, 3, (0, 0, 0, 301, 0))]
theorem o_GA_init_92 : jokL "ChessHouse$Game" lw_tbl jcl jtb 1 true prog_7_method_1_code 92 k_GA_init_92 = true := jok_sub oo_GA_init_0 42 3 rfl rfl
def k_GA_init_101 : List jI := [(.putfield 49, 3, (9, 12, 757, 3, 0)), (.aload_n 0, 1, (0, 0, 0, 0, 0)), (.bipush 96, 2, (0, 0, 0, 96, 0))]
theorem o_GA_init_101 : jokL "ChessHouse$Game" lw_tbl jcl jtb 1 true prog_7_method_1_code 101 k_GA_init_101 = true := jok_sub oo_GA_init_0 46 3 rfl rfl
def k_GA_init_109 : List jI := [(.putfield 52, 3, (9, 14, 762, 3, 0)), (.aload_n 0, 1, (0, 0, 0, 0, 0)), (.bipush 8, 2, (0, 0, 0, 8, 0))]
theorem o_GA_init_109 : jokL "ChessHouse$Game" lw_tbl jcl jtb 1 true prog_7_method_1_code 109 k_GA_init_109 = true := jok_sub oo_GA_init_0 50 3 rfl rfl
def k_GA_init_117 : List jI := [(.putfield 55, 3, (9, 15, 764, 3, 0)), (.aload_n 0, 1, (0, 0, 0, 0, 0)), (.sipush 768, 3, (0, 0, 0, 768, 0))]
theorem o_GA_init_117 : jokL "ChessHouse$Game" lw_tbl jcl jtb 1 true prog_7_method_1_code 117 k_GA_init_117 = true := jok_sub oo_GA_init_0 54 3 rfl rfl
def k_GA_init_126 : List jI := [(.putfield 58, 3, (9, 16, 766, 3, 0)), (.aload_n 0, 1, (0, 0, 0, 0, 0)), (.bipush 8, 2, (0, 0, 0, 8, 0))]
theorem o_GA_init_126 : jokL "ChessHouse$Game" lw_tbl jcl jtb 1 true prog_7_method_1_code 126 k_GA_init_126 = true := jok_sub oo_GA_init_0 58 3 rfl rfl
def k_GA_init_134 : List jI := [(.putfield 61, 3, (9, 17, 768, 3, 0))]
theorem o_GA_init_134 : jokL "ChessHouse$Game" lw_tbl jcl jtb 1 true prog_7_method_1_code 134 k_GA_init_134 = true := jok_sub oo_GA_init_0 62 1 rfl rfl
theorem d_GA_init_1 : decode prog_7_method_1_code 1 = .ok (.invokespecial 3, 3) := by decide +kernel
theorem d_GA_init_5 : decode prog_7_method_1_code 5 = .ok (.new 9, 3) := by decide +kernel
theorem d_GA_init_9 : decode prog_7_method_1_code 9 = .ok (.invokespecial 11, 3) := by decide +kernel
theorem q_GA_init_9 : jlm lw_tbl 615 "ChessHouse$Game" 11 ⟨"ChessHouse$Board", "<init>", "()V"⟩ = true := by decide +kernel
theorem d_GA_init_19 : decode prog_7_method_1_code 19 = .ok (.newarray .int, 2) := by decide +kernel
theorem d_GA_init_28 : decode prog_7_method_1_code 28 = .ok (.newarray .int, 2) := by decide +kernel
theorem d_GA_init_37 : decode prog_7_method_1_code 37 = .ok (.newarray .int, 2) := by decide +kernel
theorem d_GA_init_46 : decode prog_7_method_1_code 46 = .ok (.newarray .int, 2) := by decide +kernel
theorem d_GA_init_55 : decode prog_7_method_1_code 55 = .ok (.newarray .long, 2) := by decide +kernel
theorem d_GA_init_64 : decode prog_7_method_1_code 64 = .ok (.newarray .int, 2) := by decide +kernel
theorem d_GA_init_73 : decode prog_7_method_1_code 73 = .ok (.newarray .int, 2) := by decide +kernel
theorem d_GA_init_81 : decode prog_7_method_1_code 81 = .ok (.newarray .byte, 2) := by decide +kernel
theorem d_GA_init_90 : decode prog_7_method_1_code 90 = .ok (.newarray .int, 2) := by decide +kernel
theorem d_GA_init_99 : decode prog_7_method_1_code 99 = .ok (.newarray .int, 2) := by decide +kernel
theorem d_GA_init_107 : decode prog_7_method_1_code 107 = .ok (.newarray .byte, 2) := by decide +kernel
theorem d_GA_init_115 : decode prog_7_method_1_code 115 = .ok (.newarray .int, 2) := by decide +kernel
theorem d_GA_init_124 : decode prog_7_method_1_code 124 = .ok (.newarray .byte, 2) := by decide +kernel
theorem d_GA_init_132 : decode prog_7_method_1_code 132 = .ok (.newarray .int, 2) := by decide +kernel
theorem d_GA_init_137 : decode prog_7_method_1_code 137 = .ok (.return_, 1) := by decide +kernel
def y_CH_init : jY := (⟨"ChessHouse", "<init>", "()V"⟩, prog_1_method_1_code, 1, none)
theorem m_CH_init : jmth lw_tbl y_CH_init 0 := ⟨jTA_in (wi := 338) (by decide +kernel) rfl, jTA_in (wi := 302) (by decide +kernel) rfl, by decide, by decide, by decide +kernel⟩
theorem i_CH_init : Jvm.Cond.instanceMethod y_CH_init.1 ∈ jTA lw_tbl := jTA_in (wi := 337) (by decide +kernel) rfl
def kk_CH_init_0 : List jI := [(.aload_n 0, 1, (0, 0, 0, 0, 0)), (.invokespecial 1, 3, (0, 0, 0, 0, 0)), (.aload_n 0, 1, (0, 0, 0, 0, 0)), (.ldc 9, 2, (0, 0, 342, 65537, 0)), (.newarray .byte, 2, (0, 0, 0, 0, 0)), (.putfield 10, 3, (0, 0, 813, 3, 0)), (.aload_n 0, 1, (0, 0, 0, 0, 0)), (.new 14, 3, (0, 0, 0, 0, 0)), (.dup, 1, (0, 0, 0, 0, 0)), (.ldc 16, 2, (0, 0, 345, 65536, 0)), (.invokespecial 17, 3, (0, 0, 0, 0, 0)), (.putfield 20, 3, (0, 1, 814, 3, 0)), (.aload_n 0, 1, (0, 0, 0, 0, 0)), (.new 24, 3, (0, 0, 0, 0, 0)), (.dup, 1, (0, 0, 0, 0, 0)), (.invokespecial 26, 3, (0, 0, 0, 0, 0)), (.putfield 27, 3, (0, 2, 815, 3, 0)), (.aload_n 0, 1, (0, 0, 0, 0, 0)), (.new 31, 3, (0, 0, 0, 0, 0)), (.dup, 1, (0, 0, 0, 0, 0)), (.invokespecial 33, 3, (0, 0, 0, 0, 0)), (.putfield 34, 3, (0, 3, 816, 3, 0)), (.aload_n 0, 1, (0, 0, 0, 0, 0)), (.new 38, 3, (0, 0, 0, 0, 0)), (.dup, 1, (0, 0, 0, 0, 0)), (.invokespecial 40, 3, (0, 0, 0, 0, 0)), (.putfield 41, 3, (0, 4, 817, 3, 0)), (.aload_n 0, 1, (0, 0, 0, 0, 0)), (.new 45, 3, (0, 0, 0, 0, 0)), (.dup, 1, (0, 0, 0, 0, 0)), (.invokespecial 47, 3, (0, 0, 0, 0, 0)), (.putfield 48, 3, (0, 5, 818, 3, 0)), (.aload_n 0, 1, (0, 0, 0, 0, 0)), (.new 52, 3, (0, 0, 0, 0, 0)), (.dup, 1, (0, 0, 0, 0, 0)), (.invokespecial 54, 3, (0, 0, 0, 0, 0)), (.putfield 55, 3, (0, 6, 819, 3, 0)), (.aload_n 0, 1, (0, 0, 0, 0, 0)), (.new 59, 3, (0, 0, 0, 0, 0)), (.dup, 1, (0, 0, 0, 0, 0)), (.invokespecial 61, 3, (0, 0, 0, 0, 0)), (.putfield 62, 3, (0, 7, 820, 3, 0)), (.aload_n 0, 1, (0, 0, 0, 0, 0)), (.new 66, 3, (0, 0, 0, 0, 0)), (.dup, 1, (0, 0, 0, 0, 0)), (.invokespecial 68, 3, (0, 0, 0, 0, 0)), (.putfield 69, 3, (0, 8, 821, 3, 0)), (.aload_n 0, 1, (0, 0, 0, 0, 0)), (.sipush 1728, 3, (0, 0, 0, 1728, 0)), (.newarray .int, 2, (0, 0, 0, 0, 0)), (.putfield 75, 3, (0, 9, 822, 3, 0)), (.aload_n 0, 1, (0, 0, 0, 0, 0)), (.new 79, 3, (0, 0, 0, 0, 0)), (.dup, 1, (0, 0, 0, 0, 0)), (.invokespecial 81, 3, (0, 0, 0, 0, 0)), (.putfield 82, 3, (0, 10, 823, 3, 0)), (.aload_n 0, 1, (0, 0, 0, 0, 0)), (.new 79, 3, (0, 0, 0, 0, 0)), (.dup, 1, (0, 0, 0, 0, 0)), (.invokespecial 81, 3, (0, 0, 0, 0, 0)), (.putfield 86, 3, (0, 11, 824, 3, 0)), (.aload_n 0, 1, (0, 0, 0, 0, 0)), (.iconst 0, 1, (0, 0, 0, 0, 0)), (.putfield 89, 3, (0, 12, 825, 0, 0)), (.return_, 1, (0, 0, 0, 0, 0))]
theorem oo_CH_init_0 : jokL "ChessHouse" lw_tbl jcl jtb 1 true prog_1_method_1_code 0 kk_CH_init_0 = true := by decide +kernel
def k_CH_init_0 : List jI := [(.aload_n 0, 1, (0, 0, 0, 0, 0))]
theorem o_CH_init_0 : jokL "ChessHouse" lw_tbl jcl jtb 1 true prog_1_method_1_code 0 k_CH_init_0 = true := jok_sub oo_CH_init_0 0 1 rfl rfl
def k_CH_init_4 : List jI := [(.aload_n 0, 1, (0, 0, 0, 0, 0)), (.ldc 9, 2, (0, 0, 342, 65537, 0))]
theorem o_CH_init_4 : jokL "ChessHouse" lw_tbl jcl jtb 1 true prog_1_method_1_code 4 k_CH_init_4 = true := jok_sub oo_CH_init_0 2 2 rfl rfl
def k_CH_init_9 : List jI := [(.putfield 10, 3, (0, 0, 813, 3, 0)), (.aload_n 0, 1, (0, 0, 0, 0, 0))]
theorem o_CH_init_9 : jokL "ChessHouse" lw_tbl jcl jtb 1 true prog_1_method_1_code 9 k_CH_init_9 = true := jok_sub oo_CH_init_0 5 2 rfl rfl
def k_CH_init_16 : List jI := [(.dup, 1, (0, 0, 0, 0, 0)), (.ldc 16, 2, (0, 0, 345, 65536, 0))]
theorem o_CH_init_16 : jokL "ChessHouse" lw_tbl jcl jtb 1 true prog_1_method_1_code 16 k_CH_init_16 = true := jok_sub oo_CH_init_0 8 2 rfl rfl
def k_CH_init_22 : List jI := [(.putfield 20, 3, (0, 1, 814, 3, 0)), (.aload_n 0, 1, (0, 0, 0, 0, 0))]
theorem o_CH_init_22 : jokL "ChessHouse" lw_tbl jcl jtb 1 true prog_1_method_1_code 22 k_CH_init_22 = true := jok_sub oo_CH_init_0 11 2 rfl rfl
def k_CH_init_29 : List jI := [(.dup, 1, (0, 0, 0, 0, 0))]
theorem o_CH_init_29 : jokL "ChessHouse" lw_tbl jcl jtb 1 true prog_1_method_1_code 29 k_CH_init_29 = true := jok_sub oo_CH_init_0 14 1 rfl rfl
def k_CH_init_33 : List jI := [(.putfield 27, 3, (0, 2, 815, 3, 0)), (.aload_n 0, 1, (0, 0, 0, 0, 0))]
theorem o_CH_init_33 : jokL "ChessHouse" lw_tbl jcl jtb 1 true prog_1_method_1_code 33 k_CH_init_33 = true := jok_sub oo_CH_init_0 16 2 rfl rfl
def k_CH_init_40 : List jI := [(.dup, 1, (0, 0, 0, 0, 0))]
theorem o_CH_init_40 : jokL "ChessHouse" lw_tbl jcl jtb 1 true prog_1_method_1_code 40 k_CH_init_40 = true := jok_sub oo_CH_init_0 19 1 rfl rfl
def k_CH_init_44 : List jI := [(.putfield 34, 3, (0, 3, 816, 3, 0)), (.aload_n 0, 1, (0, 0, 0, 0, 0))]
theorem o_CH_init_44 : jokL "ChessHouse" lw_tbl jcl jtb 1 true prog_1_method_1_code 44 k_CH_init_44 = true := jok_sub oo_CH_init_0 21 2 rfl rfl
def k_CH_init_51 : List jI := [(.dup, 1, (0, 0, 0, 0, 0))]
theorem o_CH_init_51 : jokL "ChessHouse" lw_tbl jcl jtb 1 true prog_1_method_1_code 51 k_CH_init_51 = true := jok_sub oo_CH_init_0 24 1 rfl rfl
def k_CH_init_55 : List jI := [(.putfield 41, 3, (0, 4, 817, 3, 0)), (.aload_n 0, 1, (0, 0, 0, 0, 0))]
theorem o_CH_init_55 : jokL "ChessHouse" lw_tbl jcl jtb 1 true prog_1_method_1_code 55 k_CH_init_55 = true := jok_sub oo_CH_init_0 26 2 rfl rfl
def k_CH_init_62 : List jI := [(.dup, 1, (0, 0, 0, 0, 0))]
theorem o_CH_init_62 : jokL "ChessHouse" lw_tbl jcl jtb 1 true prog_1_method_1_code 62 k_CH_init_62 = true := jok_sub oo_CH_init_0 29 1 rfl rfl
def k_CH_init_66 : List jI := [(.putfield 48, 3, (0, 5, 818, 3, 0)), (.aload_n 0, 1, (0, 0, 0, 0, 0))]
theorem o_CH_init_66 : jokL "ChessHouse" lw_tbl jcl jtb 1 true prog_1_method_1_code 66 k_CH_init_66 = true := jok_sub oo_CH_init_0 31 2 rfl rfl
def k_CH_init_73 : List jI := [(.dup, 1, (0, 0, 0, 0, 0))]
theorem o_CH_init_73 : jokL "ChessHouse" lw_tbl jcl jtb 1 true prog_1_method_1_code 73 k_CH_init_73 = true := jok_sub oo_CH_init_0 34 1 rfl rfl
def k_CH_init_77 : List jI := [(.putfield 55, 3, (0, 6, 819, 3, 0)), (.aload_n 0, 1, (0, 0, 0, 0, 0))]
theorem o_CH_init_77 : jokL "ChessHouse" lw_tbl jcl jtb 1 true prog_1_method_1_code 77 k_CH_init_77 = true := jok_sub oo_CH_init_0 36 2 rfl rfl
def k_CH_init_84 : List jI := [(.dup, 1, (0, 0, 0, 0, 0))]
theorem o_CH_init_84 : jokL "ChessHouse" lw_tbl jcl jtb 1 true prog_1_method_1_code 84 k_CH_init_84 = true := jok_sub oo_CH_init_0 39 1 rfl rfl
def k_CH_init_88 : List jI := [(.putfield 62, 3, (0, 7, 820, 3, 0)), (.aload_n 0, 1, (0, 0, 0, 0, 0))]
theorem o_CH_init_88 : jokL "ChessHouse" lw_tbl jcl jtb 1 true prog_1_method_1_code 88 k_CH_init_88 = true := jok_sub oo_CH_init_0 41 2 rfl rfl
def k_CH_init_95 : List jI := [(.dup, 1, (0, 0, 0, 0, 0))]
theorem o_CH_init_95 : jokL "ChessHouse" lw_tbl jcl jtb 1 true prog_1_method_1_code 95 k_CH_init_95 = true := jok_sub oo_CH_init_0 44 1 rfl rfl
def k_CH_init_99 : List jI := [(.putfield 69, 3, (0, 8, 821, 3, 0)), (.aload_n 0, 1, (0, 0, 0, 0, 0)), (.sipush 1728, 3, (0, 0, 0, 1728, 0))]
theorem o_CH_init_99 : jokL "ChessHouse" lw_tbl jcl jtb 1 true prog_1_method_1_code 99 k_CH_init_99 = true := jok_sub oo_CH_init_0 46 3 rfl rfl
def k_CH_init_108 : List jI := [(.putfield 75, 3, (0, 9, 822, 3, 0)), (.aload_n 0, 1, (0, 0, 0, 0, 0))]
theorem o_CH_init_108 : jokL "ChessHouse" lw_tbl jcl jtb 1 true prog_1_method_1_code 108 k_CH_init_108 = true := jok_sub oo_CH_init_0 50 2 rfl rfl
def k_CH_init_115 : List jI := [(.dup, 1, (0, 0, 0, 0, 0))]
theorem o_CH_init_115 : jokL "ChessHouse" lw_tbl jcl jtb 1 true prog_1_method_1_code 115 k_CH_init_115 = true := jok_sub oo_CH_init_0 53 1 rfl rfl
def k_CH_init_119 : List jI := [(.putfield 82, 3, (0, 10, 823, 3, 0)), (.aload_n 0, 1, (0, 0, 0, 0, 0))]
theorem o_CH_init_119 : jokL "ChessHouse" lw_tbl jcl jtb 1 true prog_1_method_1_code 119 k_CH_init_119 = true := jok_sub oo_CH_init_0 55 2 rfl rfl
def k_CH_init_126 : List jI := [(.dup, 1, (0, 0, 0, 0, 0))]
theorem o_CH_init_126 : jokL "ChessHouse" lw_tbl jcl jtb 1 true prog_1_method_1_code 126 k_CH_init_126 = true := jok_sub oo_CH_init_0 58 1 rfl rfl
def k_CH_init_130 : List jI := [(.putfield 86, 3, (0, 11, 824, 3, 0)), (.aload_n 0, 1, (0, 0, 0, 0, 0)), (.iconst 0, 1, (0, 0, 0, 0, 0)), (.putfield 89, 3, (0, 12, 825, 0, 0))]
theorem o_CH_init_130 : jokL "ChessHouse" lw_tbl jcl jtb 1 true prog_1_method_1_code 130 k_CH_init_130 = true := jok_sub oo_CH_init_0 60 4 rfl rfl
theorem d_CH_init_1 : decode prog_1_method_1_code 1 = .ok (.invokespecial 1, 3) := by decide +kernel
theorem d_CH_init_7 : decode prog_1_method_1_code 7 = .ok (.newarray .byte, 2) := by decide +kernel
theorem d_CH_init_13 : decode prog_1_method_1_code 13 = .ok (.new 14, 3) := by decide +kernel
theorem d_CH_init_19 : decode prog_1_method_1_code 19 = .ok (.invokespecial 17, 3) := by decide +kernel
theorem q_CH_init_19 : jlm lw_tbl 346 "ChessHouse" 17 ⟨"ChessHouse$Bytes", "<init>", "(I)V"⟩ = true := by decide +kernel
theorem d_CH_init_26 : decode prog_1_method_1_code 26 = .ok (.new 24, 3) := by decide +kernel
theorem d_CH_init_30 : decode prog_1_method_1_code 30 = .ok (.invokespecial 26, 3) := by decide +kernel
theorem q_CH_init_30 : jlm lw_tbl 364 "ChessHouse" 26 ⟨"ChessHouse$Words", "<init>", "()V"⟩ = true := by decide +kernel
theorem d_CH_init_37 : decode prog_1_method_1_code 37 = .ok (.new 31, 3) := by decide +kernel
theorem d_CH_init_41 : decode prog_1_method_1_code 41 = .ok (.invokespecial 33, 3) := by decide +kernel
theorem q_CH_init_41 : jlm lw_tbl 390 "ChessHouse" 33 ⟨"ChessHouse$Signs", "<init>", "()V"⟩ = true := by decide +kernel
theorem d_CH_init_48 : decode prog_1_method_1_code 48 = .ok (.new 38, 3) := by decide +kernel
theorem d_CH_init_52 : decode prog_1_method_1_code 52 = .ok (.invokespecial 40, 3) := by decide +kernel
theorem q_CH_init_52 : jlm lw_tbl 430 "ChessHouse" 40 ⟨"ChessHouse$GameReader", "<init>", "()V"⟩ = true := by decide +kernel
theorem d_CH_init_59 : decode prog_1_method_1_code 59 = .ok (.new 45, 3) := by decide +kernel
theorem d_CH_init_63 : decode prog_1_method_1_code 63 = .ok (.invokespecial 47, 3) := by decide +kernel
theorem q_CH_init_63 : jlm lw_tbl 476 "ChessHouse" 47 ⟨"ChessHouse$GameWriter", "<init>", "()V"⟩ = true := by decide +kernel
theorem d_CH_init_70 : decode prog_1_method_1_code 70 = .ok (.new 52, 3) := by decide +kernel
theorem d_CH_init_74 : decode prog_1_method_1_code 74 = .ok (.invokespecial 54, 3) := by decide +kernel
theorem q_CH_init_74 : jlm lw_tbl 497 "ChessHouse" 54 ⟨"ChessHouse$Search", "<init>", "()V"⟩ = true := by decide +kernel
theorem d_CH_init_81 : decode prog_1_method_1_code 81 = .ok (.new 59, 3) := by decide +kernel
theorem d_CH_init_85 : decode prog_1_method_1_code 85 = .ok (.invokespecial 61, 3) := by decide +kernel
theorem q_CH_init_85 : jlm lw_tbl 527 "ChessHouse" 61 ⟨"ChessHouse$Problems", "<init>", "()V"⟩ = true := by decide +kernel
theorem d_CH_init_92 : decode prog_1_method_1_code 92 = .ok (.new 66, 3) := by decide +kernel
theorem d_CH_init_96 : decode prog_1_method_1_code 96 = .ok (.invokespecial 68, 3) := by decide +kernel
theorem q_CH_init_96 : jlm lw_tbl 570 "ChessHouse" 68 ⟨"ChessHouse$Endings", "<init>", "()V"⟩ = true := by decide +kernel
theorem d_CH_init_106 : decode prog_1_method_1_code 106 = .ok (.newarray .int, 2) := by decide +kernel
theorem d_CH_init_112 : decode prog_1_method_1_code 112 = .ok (.new 79, 3) := by decide +kernel
theorem d_CH_init_116 : decode prog_1_method_1_code 116 = .ok (.invokespecial 81, 3) := by decide +kernel
theorem q_CH_init_116 : jlm lw_tbl 609 "ChessHouse" 81 ⟨"ChessHouse$Game", "<init>", "()V"⟩ = true := by decide +kernel
theorem d_CH_init_123 : decode prog_1_method_1_code 123 = .ok (.new 79, 3) := by decide +kernel
theorem d_CH_init_127 : decode prog_1_method_1_code 127 = .ok (.invokespecial 81, 3) := by decide +kernel
theorem q_CH_init_127 : jlm lw_tbl 609 "ChessHouse" 81 ⟨"ChessHouse$Game", "<init>", "()V"⟩ = true := by decide +kernel
theorem d_CH_init_138 : decode prog_1_method_1_code 138 = .ok (.return_, 1) := by decide +kernel
def y_CH_takeFour : jY := (⟨"ChessHouse", "takeFour", "(I)V"⟩, prog_1_method_6_code, 3, none)
theorem m_CH_takeFour : jmth lw_tbl y_CH_takeFour 1 := ⟨jTA_in (wi := 937) (by decide +kernel) rfl, jTA_in (wi := 302) (by decide +kernel) rfl, by decide, by decide, by decide +kernel⟩
theorem i_CH_takeFour : Jvm.Cond.instanceMethod y_CH_takeFour.1 ∈ jTA lw_tbl := jTA_in (wi := 936) (by decide +kernel) rfl
theorem e_CH_takeFour : Jvm.Cond.selects y_CH_takeFour.1.cls y_CH_takeFour.1 y_CH_takeFour.1 ∈ jTA lw_tbl := jTA_in (wi := 3) (by decide +kernel) rfl
def kk_CH_takeFour_0 : List jI := [(.bipush 24, 2, (0, 0, 0, 24, 0)), (.istore_n 2, 1, (2, 0, 0, 0, 0)), (.iload_n 2, 1, (2, 0, 0, 0, 0)), (.ifCond .lt 32, 3, (36, 0, 0, 0, 0)), (.aload_n 0, 1, (0, 0, 0, 0, 0)), (.getfield 10, 3, (0, 0, 813, 0, 0)), (.aload_n 0, 1, (0, 0, 0, 0, 0)), (.getfield 89, 3, (0, 12, 825, 0, 0)), (.iload_n 1, 1, (1, 0, 0, 0, 0)), (.iload_n 2, 1, (2, 0, 0, 0, 0)), (.ishr, 1, (0, 0, 0, 0, 0)), (.i2b, 1, (0, 0, 0, 0, 0)), (.bastore, 1, (0, 0, 0, 0, 0)), (.aload_n 0, 1, (0, 0, 0, 0, 0)), (.dup, 1, (0, 0, 0, 0, 0)), (.getfield 89, 3, (0, 12, 825, 0, 0)), (.iconst 1, 1, (0, 0, 0, 1, 0)), (.iadd, 1, (0, 0, 0, 0, 0)), (.putfield 89, 3, (0, 12, 825, 0, 0)), (.iinc 2 (-8), 3, (0, 0, 0, (-8), 0)), (.goto (-30), 3, (3, 0, 0, 0, 0)), (.return_, 1, (0, 0, 0, 0, 0))]
theorem oo_CH_takeFour_0 : jokL "ChessHouse" lw_tbl jcl jtb 3 false prog_1_method_6_code 0 kk_CH_takeFour_0 = true := by decide +kernel
def k_CH_takeFour_0 : List jI := [(.bipush 24, 2, (0, 0, 0, 24, 0)), (.istore_n 2, 1, (2, 0, 0, 0, 0))]
theorem o_CH_takeFour_0 : jokL "ChessHouse" lw_tbl jcl jtb 3 false prog_1_method_6_code 0 k_CH_takeFour_0 = true := jok_sub oo_CH_takeFour_0 0 2 rfl rfl
def k_CH_takeFour_3 : List jI := [(.iload_n 2, 1, (2, 0, 0, 0, 0)), (.ifCond .lt 32, 3, (36, 0, 0, 0, 0)), (.aload_n 0, 1, (0, 0, 0, 0, 0)), (.getfield 10, 3, (0, 0, 813, 0, 0)), (.aload_n 0, 1, (0, 0, 0, 0, 0)), (.getfield 89, 3, (0, 12, 825, 0, 0)), (.iload_n 1, 1, (1, 0, 0, 0, 0)), (.iload_n 2, 1, (2, 0, 0, 0, 0)), (.ishr, 1, (0, 0, 0, 0, 0)), (.i2b, 1, (0, 0, 0, 0, 0)), (.bastore, 1, (0, 0, 0, 0, 0)), (.aload_n 0, 1, (0, 0, 0, 0, 0)), (.dup, 1, (0, 0, 0, 0, 0)), (.getfield 89, 3, (0, 12, 825, 0, 0)), (.iconst 1, 1, (0, 0, 0, 1, 0)), (.iadd, 1, (0, 0, 0, 0, 0)), (.putfield 89, 3, (0, 12, 825, 0, 0)), (.iinc 2 (-8), 3, (0, 0, 0, (-8), 0)), (.goto (-30), 3, (3, 0, 0, 0, 0))]
theorem o_CH_takeFour_3 : jokL "ChessHouse" lw_tbl jcl jtb 3 false prog_1_method_6_code 3 k_CH_takeFour_3 = true := jok_sub oo_CH_takeFour_0 2 19 rfl rfl
theorem d_CH_takeFour_36 : decode prog_1_method_6_code 36 = .ok (.return_, 1) := by decide +kernel
def y_CH_feed : jY := (⟨"ChessHouse", "feed", "(IIIII)V"⟩, prog_1_method_2_code, 6, none)
theorem m_CH_feed : jmth lw_tbl y_CH_feed 5 := ⟨jTA_in (wi := 870) (by decide +kernel) rfl, jTA_in (wi := 302) (by decide +kernel) rfl, by decide, by decide, by decide +kernel⟩
theorem i_CH_feed : Jvm.Cond.instanceMethod y_CH_feed.1 ∈ jTA lw_tbl := jTA_in (wi := 868) (by decide +kernel) rfl
theorem e_CH_feed : Jvm.Cond.selects y_CH_feed.1.cls y_CH_feed.1 y_CH_feed.1 ∈ jTA lw_tbl := jTA_in (wi := 869) (by decide +kernel) rfl
def kk_CH_feed_0 : List jI := [(.aload_n 0, 1, (0, 0, 0, 0, 0)), (.getfield 89, 3, (0, 12, 825, 0, 0)), (.bipush 20, 2, (0, 0, 0, 20, 0)), (.iadd, 1, (0, 0, 0, 0, 0)), (.ldc 16, 2, (0, 0, 345, 65536, 0)), (.if_icmp .le 11, 3, (20, 0, 0, 0, 0)), (.new 93, 3, (0, 0, 0, 0, 0)), (.dup, 1, (0, 0, 0, 0, 0)), (.invokespecial 95, 3, (0, 0, 0, 0, 0)), (.athrow, 1, (0, 0, 0, 0, 0)), (.aload_n 0, 1, (0, 0, 0, 0, 0)), (.iload_n 1, 1, (1, 0, 0, 0, 0)), (.invokevirtual 96, 3, (0, 0, 0, 0, 0)), (.aload_n 0, 1, (0, 0, 0, 0, 0)), (.iload_n 2, 1, (2, 0, 0, 0, 0)), (.invokevirtual 96, 3, (0, 0, 0, 0, 0)), (.aload_n 0, 1, (0, 0, 0, 0, 0)), (.iload_n 3, 1, (3, 0, 0, 0, 0)), (.invokevirtual 96, 3, (0, 0, 0, 0, 0)), (.aload_n 0, 1, (0, 0, 0, 0, 0)), (.iload 4, 2, (4, 0, 0, 0, 0)), (.invokevirtual 96, 3, (0, 0, 0, 0, 0)), (.aload_n 0, 1, (0, 0, 0, 0, 0)), (.iload 5, 2, (5, 0, 0, 0, 0)), (.invokevirtual 96, 3, (0, 0, 0, 0, 0)), (.return_, 1, (0, 0, 0, 0, 0))]
theorem oo_CH_feed_0 : jokL "ChessHouse" lw_tbl jcl jtb 6 false prog_1_method_2_code 0 kk_CH_feed_0 = true := by decide +kernel
def k_CH_feed_0 : List jI := [(.aload_n 0, 1, (0, 0, 0, 0, 0)), (.getfield 89, 3, (0, 12, 825, 0, 0)), (.bipush 20, 2, (0, 0, 0, 20, 0)), (.iadd, 1, (0, 0, 0, 0, 0)), (.ldc 16, 2, (0, 0, 345, 65536, 0)), (.if_icmp .le 11, 3, (20, 0, 0, 0, 0))]
theorem o_CH_feed_0 : jokL "ChessHouse" lw_tbl jcl jtb 6 false prog_1_method_2_code 0 k_CH_feed_0 = true := jok_sub oo_CH_feed_0 0 6 rfl rfl
def k_CH_feed_15 : List jI := [(.dup, 1, (0, 0, 0, 0, 0))]
theorem o_CH_feed_15 : jokL "ChessHouse" lw_tbl jcl jtb 6 false prog_1_method_2_code 15 k_CH_feed_15 = true := jok_sub oo_CH_feed_0 7 1 rfl rfl
def k_CH_feed_20 : List jI := [(.aload_n 0, 1, (0, 0, 0, 0, 0)), (.iload_n 1, 1, (1, 0, 0, 0, 0))]
theorem o_CH_feed_20 : jokL "ChessHouse" lw_tbl jcl jtb 6 false prog_1_method_2_code 20 k_CH_feed_20 = true := jok_sub oo_CH_feed_0 10 2 rfl rfl
def k_CH_feed_25 : List jI := [(.aload_n 0, 1, (0, 0, 0, 0, 0)), (.iload_n 2, 1, (2, 0, 0, 0, 0))]
theorem o_CH_feed_25 : jokL "ChessHouse" lw_tbl jcl jtb 6 false prog_1_method_2_code 25 k_CH_feed_25 = true := jok_sub oo_CH_feed_0 13 2 rfl rfl
def k_CH_feed_30 : List jI := [(.aload_n 0, 1, (0, 0, 0, 0, 0)), (.iload_n 3, 1, (3, 0, 0, 0, 0))]
theorem o_CH_feed_30 : jokL "ChessHouse" lw_tbl jcl jtb 6 false prog_1_method_2_code 30 k_CH_feed_30 = true := jok_sub oo_CH_feed_0 16 2 rfl rfl
def k_CH_feed_35 : List jI := [(.aload_n 0, 1, (0, 0, 0, 0, 0)), (.iload 4, 2, (4, 0, 0, 0, 0))]
theorem o_CH_feed_35 : jokL "ChessHouse" lw_tbl jcl jtb 6 false prog_1_method_2_code 35 k_CH_feed_35 = true := jok_sub oo_CH_feed_0 19 2 rfl rfl
def k_CH_feed_41 : List jI := [(.aload_n 0, 1, (0, 0, 0, 0, 0)), (.iload 5, 2, (5, 0, 0, 0, 0))]
theorem o_CH_feed_41 : jokL "ChessHouse" lw_tbl jcl jtb 6 false prog_1_method_2_code 41 k_CH_feed_41 = true := jok_sub oo_CH_feed_0 22 2 rfl rfl
theorem d_CH_feed_12 : decode prog_1_method_2_code 12 = .ok (.new 93, 3) := by decide +kernel
theorem d_CH_feed_16 : decode prog_1_method_2_code 16 = .ok (.invokespecial 95, 3) := by decide +kernel
theorem d_CH_feed_19 : decode prog_1_method_2_code 19 = .ok (.athrow, 1) := by decide +kernel
theorem d_CH_feed_22 : decode prog_1_method_2_code 22 = .ok (.invokevirtual 96, 3) := by decide +kernel
theorem q_CH_feed_22 : jlm lw_tbl 934 "ChessHouse" 96 ⟨"ChessHouse", "takeFour", "(I)V"⟩ = true := by decide +kernel
theorem d_CH_feed_27 : decode prog_1_method_2_code 27 = .ok (.invokevirtual 96, 3) := by decide +kernel
theorem q_CH_feed_27 : jlm lw_tbl 934 "ChessHouse" 96 ⟨"ChessHouse", "takeFour", "(I)V"⟩ = true := by decide +kernel
theorem d_CH_feed_32 : decode prog_1_method_2_code 32 = .ok (.invokevirtual 96, 3) := by decide +kernel
theorem q_CH_feed_32 : jlm lw_tbl 934 "ChessHouse" 96 ⟨"ChessHouse", "takeFour", "(I)V"⟩ = true := by decide +kernel
theorem d_CH_feed_38 : decode prog_1_method_2_code 38 = .ok (.invokevirtual 96, 3) := by decide +kernel
theorem q_CH_feed_38 : jlm lw_tbl 934 "ChessHouse" 96 ⟨"ChessHouse", "takeFour", "(I)V"⟩ = true := by decide +kernel
theorem d_CH_feed_44 : decode prog_1_method_2_code 44 = .ok (.invokevirtual 96, 3) := by decide +kernel
theorem q_CH_feed_44 : jlm lw_tbl 934 "ChessHouse" 96 ⟨"ChessHouse", "takeFour", "(I)V"⟩ = true := by decide +kernel
theorem d_CH_feed_47 : decode prog_1_method_2_code 47 = .ok (.return_, 1) := by decide +kernel
def y_CH_size : jY := (⟨"ChessHouse", "size", "()I"⟩, prog_1_method_4_code, 1, (some .int))
theorem m_CH_size : jmth lw_tbl y_CH_size 0 := ⟨jTA_in (wi := 862) (by decide +kernel) rfl, jTA_in (wi := 302) (by decide +kernel) rfl, by decide, by decide, by decide +kernel⟩
theorem i_CH_size : Jvm.Cond.instanceMethod y_CH_size.1 ∈ jTA lw_tbl := jTA_in (wi := 860) (by decide +kernel) rfl
theorem e_CH_size : Jvm.Cond.selects y_CH_size.1.cls y_CH_size.1 y_CH_size.1 ∈ jTA lw_tbl := jTA_in (wi := 861) (by decide +kernel) rfl
def kk_CH_size_0 : List jI := [(.aload_n 0, 1, (0, 0, 0, 0, 0)), (.getfield 20, 3, (0, 1, 814, 0, 0)), (.getfield 123, 3, (1, 1, 355, 0, 0)), (.ireturn, 1, (0, 0, 0, 0, 0))]
theorem oo_CH_size_0 : jokL "ChessHouse" lw_tbl jcl jtb 1 false prog_1_method_4_code 0 kk_CH_size_0 = true := by decide +kernel
def k_CH_size_0 : List jI := [(.aload_n 0, 1, (0, 0, 0, 0, 0)), (.getfield 20, 3, (0, 1, 814, 0, 0)), (.getfield 123, 3, (1, 1, 355, 0, 0))]
theorem o_CH_size_0 : jokL "ChessHouse" lw_tbl jcl jtb 1 false prog_1_method_4_code 0 k_CH_size_0 = true := jok_sub oo_CH_size_0 0 3 rfl rfl
theorem d_CH_size_7 : decode prog_1_method_4_code 7 = .ok (.ireturn, 1) := by decide +kernel
def y_CH_out : jY := (⟨"ChessHouse", "out", "(I)I"⟩, prog_1_method_5_code, 2, (some .int))
theorem m_CH_out : jmth lw_tbl y_CH_out 1 := ⟨jTA_in (wi := 1885) (by decide +kernel) rfl, jTA_in (wi := 302) (by decide +kernel) rfl, by decide, by decide, by decide +kernel⟩
theorem i_CH_out : Jvm.Cond.instanceMethod y_CH_out.1 ∈ jTA lw_tbl := jTA_in (wi := 1883) (by decide +kernel) rfl
theorem e_CH_out : Jvm.Cond.selects y_CH_out.1.cls y_CH_out.1 y_CH_out.1 ∈ jTA lw_tbl := jTA_in (wi := 1884) (by decide +kernel) rfl
def kk_CH_out_0 : List jI := [(.iload_n 1, 1, (1, 0, 0, 0, 0)), (.ifCond .lt 14, 3, (15, 0, 0, 0, 0)), (.iload_n 1, 1, (1, 0, 0, 0, 0)), (.aload_n 0, 1, (0, 0, 0, 0, 0)), (.getfield 20, 3, (0, 1, 814, 0, 0)), (.getfield 123, 3, (1, 1, 355, 0, 0)), (.if_icmp .lt 11, 3, (23, 0, 0, 0, 0)), (.new 126, 3, (0, 0, 0, 0, 0)), (.dup, 1, (0, 0, 0, 0, 0)), (.invokespecial 128, 3, (0, 0, 0, 0, 0)), (.athrow, 1, (0, 0, 0, 0, 0)), (.aload_n 0, 1, (0, 0, 0, 0, 0)), (.getfield 20, 3, (0, 1, 814, 0, 0)), (.getfield 129, 3, (1, 0, 352, 0, 0)), (.iload_n 1, 1, (1, 0, 0, 0, 0)), (.baload, 1, (0, 0, 0, 0, 0)), (.sipush 255, 3, (0, 0, 0, 255, 0)), (.iand, 1, (0, 0, 0, 0, 0)), (.ireturn, 1, (0, 0, 0, 0, 0))]
theorem oo_CH_out_0 : jokL "ChessHouse" lw_tbl jcl jtb 2 false prog_1_method_5_code 0 kk_CH_out_0 = true := by decide +kernel
def k_CH_out_0 : List jI := [(.iload_n 1, 1, (1, 0, 0, 0, 0)), (.ifCond .lt 14, 3, (15, 0, 0, 0, 0)), (.iload_n 1, 1, (1, 0, 0, 0, 0)), (.aload_n 0, 1, (0, 0, 0, 0, 0)), (.getfield 20, 3, (0, 1, 814, 0, 0)), (.getfield 123, 3, (1, 1, 355, 0, 0)), (.if_icmp .lt 11, 3, (23, 0, 0, 0, 0))]
theorem o_CH_out_0 : jokL "ChessHouse" lw_tbl jcl jtb 2 false prog_1_method_5_code 0 k_CH_out_0 = true := jok_sub oo_CH_out_0 0 7 rfl rfl
def k_CH_out_18 : List jI := [(.dup, 1, (0, 0, 0, 0, 0))]
theorem o_CH_out_18 : jokL "ChessHouse" lw_tbl jcl jtb 2 false prog_1_method_5_code 18 k_CH_out_18 = true := jok_sub oo_CH_out_0 8 1 rfl rfl
def k_CH_out_23 : List jI := [(.aload_n 0, 1, (0, 0, 0, 0, 0)), (.getfield 20, 3, (0, 1, 814, 0, 0)), (.getfield 129, 3, (1, 0, 352, 0, 0)), (.iload_n 1, 1, (1, 0, 0, 0, 0)), (.baload, 1, (0, 0, 0, 0, 0)), (.sipush 255, 3, (0, 0, 0, 255, 0)), (.iand, 1, (0, 0, 0, 0, 0))]
theorem o_CH_out_23 : jokL "ChessHouse" lw_tbl jcl jtb 2 false prog_1_method_5_code 23 k_CH_out_23 = true := jok_sub oo_CH_out_0 11 7 rfl rfl
theorem d_CH_out_15 : decode prog_1_method_5_code 15 = .ok (.new 126, 3) := by decide +kernel
theorem d_CH_out_19 : decode prog_1_method_5_code 19 = .ok (.invokespecial 128, 3) := by decide +kernel
theorem d_CH_out_22 : decode prog_1_method_5_code 22 = .ok (.athrow, 1) := by decide +kernel
theorem d_CH_out_36 : decode prog_1_method_5_code 36 = .ok (.ireturn, 1) := by decide +kernel
def y_CH_end : jY := (⟨"ChessHouse", "end", "(I)I"⟩, prog_1_method_3_code, 5, (some .int))
theorem m_CH_end : jmth lw_tbl y_CH_end 1 := ⟨jTA_in (wi := 945) (by decide +kernel) rfl, jTA_in (wi := 302) (by decide +kernel) rfl, by decide, by decide, by decide +kernel⟩
theorem i_CH_end : Jvm.Cond.instanceMethod y_CH_end.1 ∈ jTA lw_tbl := jTA_in (wi := 943) (by decide +kernel) rfl
theorem e_CH_end : Jvm.Cond.selects y_CH_end.1.cls y_CH_end.1 y_CH_end.1 ∈ jTA lw_tbl := jTA_in (wi := 944) (by decide +kernel) rfl
def kk_CH_end_0 : List jI := [(.iload_n 1, 1, (1, 0, 0, 0, 0)), (.ifCond .lt 11, 3, (12, 0, 0, 0, 0)), (.iload_n 1, 1, (1, 0, 0, 0, 0)), (.aload_n 0, 1, (0, 0, 0, 0, 0)), (.getfield 89, 3, (0, 12, 825, 0, 0)), (.if_icmp .le 11, 3, (20, 0, 0, 0, 0)), (.new 99, 3, (0, 0, 0, 0, 0)), (.dup, 1, (0, 0, 0, 0, 0)), (.invokespecial 101, 3, (0, 0, 0, 0, 0)), (.athrow, 1, (0, 0, 0, 0, 0)), (.aload_n 0, 1, (0, 0, 0, 0, 0)), (.getfield 20, 3, (0, 1, 814, 0, 0)), (.invokevirtual 102, 3, (0, 0, 0, 0, 0)), (.aload_n 0, 1, (0, 0, 0, 0, 0)), (.iconst 0, 1, (0, 0, 0, 0, 0)), (.putfield 105, 3, (0, 14, 827, 0, 0)), (.aload_n 0, 1, (0, 0, 0, 0, 0)), (.getfield 10, 3, (0, 0, 813, 0, 0)), (.iload_n 1, 1, (1, 0, 0, 0, 0)), (.bipush 10, 2, (0, 0, 0, 10, 0)), (.bastore, 1, (0, 0, 0, 0, 0)), (.aload_n 0, 1, (0, 0, 0, 0, 0)), (.iconst 0, 1, (0, 0, 0, 0, 0)), (.putfield 108, 3, (0, 13, 826, 0, 0)), (.iconst 0, 1, (0, 0, 0, 0, 0)), (.istore_n 2, 1, (2, 0, 0, 0, 0)), (.iload_n 2, 1, (2, 0, 0, 0, 0)), (.iload_n 1, 1, (1, 0, 0, 0, 0)), (.if_icmp .ge 62, 3, (111, 0, 0, 0, 0)), (.aload_n 0, 1, (0, 0, 0, 0, 0)), (.getfield 108, 3, (0, 13, 826, 0, 0)), (.iload_n 1, 1, (1, 0, 0, 0, 0)), (.if_icmp .ge 54, 3, (111, 0, 0, 0, 0)), (.aload_n 0, 1, (0, 0, 0, 0, 0)), (.getfield 108, 3, (0, 13, 826, 0, 0)), (.istore_n 3, 1, (3, 0, 0, 0, 0)), (.aload_n 0, 1, (0, 0, 0, 0, 0)), (.iload_n 3, 1, (3, 0, 0, 0, 0)), (.invokevirtual 111, 3, (0, 0, 0, 0, 0)), (.istore 4, 2, (4, 0, 0, 0, 0)), (.aload_n 0, 1, (0, 0, 0, 0, 0)), (.iload 4, 2, (4, 0, 0, 0, 0)), (.iconst 1, 1, (0, 0, 0, 1, 0)), (.iadd, 1, (0, 0, 0, 0, 0)), (.putfield 108, 3, (0, 13, 826, 0, 0)), (.iload 4, 2, (4, 0, 0, 0, 0)), (.iload_n 3, 1, (3, 0, 0, 0, 0)), (.if_icmp .le 22, 3, (105, 0, 0, 0, 0)), (.aload_n 0, 1, (0, 0, 0, 0, 0)), (.aload_n 0, 1, (0, 0, 0, 0, 0)), (.getfield 27, 3, (0, 2, 815, 0, 0)), (.aload_n 0, 1, (0, 0, 0, 0, 0)), (.getfield 10, 3, (0, 0, 813, 0, 0)), (.iload_n 3, 1, (3, 0, 0, 0, 0)), (.iload 4, 2, (4, 0, 0, 0, 0)), (.invokevirtual 115, 3, (0, 0, 0, 0, 0)), (.iload_n 1, 1, (1, 0, 0, 0, 0)), (.invokevirtual 119, 3, (0, 0, 0, 0, 0)), (.iinc 2 1, 3, (0, 0, 0, 1, 0)), (.goto (-61), 3, (47, 0, 0, 0, 0)), (.aload_n 0, 1, (0, 0, 0, 0, 0)), (.iconst 0, 1, (0, 0, 0, 0, 0)), (.putfield 89, 3, (0, 12, 825, 0, 0)), (.aload_n 0, 1, (0, 0, 0, 0, 0)), (.getfield 105, 3, (0, 14, 827, 0, 0)), (.ireturn, 1, (0, 0, 0, 0, 0))]
theorem oo_CH_end_0 : jokL "ChessHouse" lw_tbl jcl jtb 5 false prog_1_method_3_code 0 kk_CH_end_0 = true := by decide +kernel
def k_CH_end_0 : List jI := [(.iload_n 1, 1, (1, 0, 0, 0, 0)), (.ifCond .lt 11, 3, (12, 0, 0, 0, 0)), (.iload_n 1, 1, (1, 0, 0, 0, 0)), (.aload_n 0, 1, (0, 0, 0, 0, 0)), (.getfield 89, 3, (0, 12, 825, 0, 0)), (.if_icmp .le 11, 3, (20, 0, 0, 0, 0))]
theorem o_CH_end_0 : jokL "ChessHouse" lw_tbl jcl jtb 5 false prog_1_method_3_code 0 k_CH_end_0 = true := jok_sub oo_CH_end_0 0 6 rfl rfl
def k_CH_end_15 : List jI := [(.dup, 1, (0, 0, 0, 0, 0))]
theorem o_CH_end_15 : jokL "ChessHouse" lw_tbl jcl jtb 5 false prog_1_method_3_code 15 k_CH_end_15 = true := jok_sub oo_CH_end_0 7 1 rfl rfl
def k_CH_end_20 : List jI := [(.aload_n 0, 1, (0, 0, 0, 0, 0)), (.getfield 20, 3, (0, 1, 814, 0, 0))]
theorem o_CH_end_20 : jokL "ChessHouse" lw_tbl jcl jtb 5 false prog_1_method_3_code 20 k_CH_end_20 = true := jok_sub oo_CH_end_0 10 2 rfl rfl
def k_CH_end_27 : List jI := [(.aload_n 0, 1, (0, 0, 0, 0, 0)), (.iconst 0, 1, (0, 0, 0, 0, 0)), (.putfield 105, 3, (0, 14, 827, 0, 0)), (.aload_n 0, 1, (0, 0, 0, 0, 0)), (.getfield 10, 3, (0, 0, 813, 0, 0)), (.iload_n 1, 1, (1, 0, 0, 0, 0)), (.bipush 10, 2, (0, 0, 0, 10, 0)), (.bastore, 1, (0, 0, 0, 0, 0)), (.aload_n 0, 1, (0, 0, 0, 0, 0)), (.iconst 0, 1, (0, 0, 0, 0, 0)), (.putfield 108, 3, (0, 13, 826, 0, 0)), (.iconst 0, 1, (0, 0, 0, 0, 0)), (.istore_n 2, 1, (2, 0, 0, 0, 0))]
theorem o_CH_end_27 : jokL "ChessHouse" lw_tbl jcl jtb 5 false prog_1_method_3_code 27 k_CH_end_27 = true := jok_sub oo_CH_end_0 13 13 rfl rfl
def k_CH_end_47 : List jI := [(.iload_n 2, 1, (2, 0, 0, 0, 0)), (.iload_n 1, 1, (1, 0, 0, 0, 0)), (.if_icmp .ge 62, 3, (111, 0, 0, 0, 0)), (.aload_n 0, 1, (0, 0, 0, 0, 0)), (.getfield 108, 3, (0, 13, 826, 0, 0)), (.iload_n 1, 1, (1, 0, 0, 0, 0)), (.if_icmp .ge 54, 3, (111, 0, 0, 0, 0)), (.aload_n 0, 1, (0, 0, 0, 0, 0)), (.getfield 108, 3, (0, 13, 826, 0, 0)), (.istore_n 3, 1, (3, 0, 0, 0, 0)), (.aload_n 0, 1, (0, 0, 0, 0, 0)), (.iload_n 3, 1, (3, 0, 0, 0, 0))]
theorem o_CH_end_47 : jokL "ChessHouse" lw_tbl jcl jtb 5 false prog_1_method_3_code 47 k_CH_end_47 = true := jok_sub oo_CH_end_0 26 12 rfl rfl
def k_CH_end_70 : List jI := [(.istore 4, 2, (4, 0, 0, 0, 0)), (.aload_n 0, 1, (0, 0, 0, 0, 0)), (.iload 4, 2, (4, 0, 0, 0, 0)), (.iconst 1, 1, (0, 0, 0, 1, 0)), (.iadd, 1, (0, 0, 0, 0, 0)), (.putfield 108, 3, (0, 13, 826, 0, 0)), (.iload 4, 2, (4, 0, 0, 0, 0)), (.iload_n 3, 1, (3, 0, 0, 0, 0)), (.if_icmp .le 22, 3, (105, 0, 0, 0, 0)), (.aload_n 0, 1, (0, 0, 0, 0, 0)), (.aload_n 0, 1, (0, 0, 0, 0, 0)), (.getfield 27, 3, (0, 2, 815, 0, 0)), (.aload_n 0, 1, (0, 0, 0, 0, 0)), (.getfield 10, 3, (0, 0, 813, 0, 0)), (.iload_n 3, 1, (3, 0, 0, 0, 0)), (.iload 4, 2, (4, 0, 0, 0, 0))]
theorem o_CH_end_70 : jokL "ChessHouse" lw_tbl jcl jtb 5 false prog_1_method_3_code 70 k_CH_end_70 = true := jok_sub oo_CH_end_0 39 16 rfl rfl
def k_CH_end_101 : List jI := [(.iload_n 1, 1, (1, 0, 0, 0, 0))]
theorem o_CH_end_101 : jokL "ChessHouse" lw_tbl jcl jtb 5 false prog_1_method_3_code 101 k_CH_end_101 = true := jok_sub oo_CH_end_0 56 1 rfl rfl
def k_CH_end_105 : List jI := [(.iinc 2 1, 3, (0, 0, 0, 1, 0)), (.goto (-61), 3, (47, 0, 0, 0, 0))]
theorem o_CH_end_105 : jokL "ChessHouse" lw_tbl jcl jtb 5 false prog_1_method_3_code 105 k_CH_end_105 = true := jok_sub oo_CH_end_0 58 2 rfl rfl
def k_CH_end_111 : List jI := [(.aload_n 0, 1, (0, 0, 0, 0, 0)), (.iconst 0, 1, (0, 0, 0, 0, 0)), (.putfield 89, 3, (0, 12, 825, 0, 0)), (.aload_n 0, 1, (0, 0, 0, 0, 0)), (.getfield 105, 3, (0, 14, 827, 0, 0))]
theorem o_CH_end_111 : jokL "ChessHouse" lw_tbl jcl jtb 5 false prog_1_method_3_code 111 k_CH_end_111 = true := jok_sub oo_CH_end_0 60 5 rfl rfl
theorem d_CH_end_12 : decode prog_1_method_3_code 12 = .ok (.new 99, 3) := by decide +kernel
theorem d_CH_end_16 : decode prog_1_method_3_code 16 = .ok (.invokespecial 101, 3) := by decide +kernel
theorem d_CH_end_19 : decode prog_1_method_3_code 19 = .ok (.athrow, 1) := by decide +kernel
theorem d_CH_end_24 : decode prog_1_method_3_code 24 = .ok (.invokevirtual 102, 3) := by decide +kernel
theorem q_CH_end_24 : jlm lw_tbl 961 "ChessHouse" 102 ⟨"ChessHouse$Bytes", "clear", "()V"⟩ = true := by decide +kernel
theorem d_CH_end_67 : decode prog_1_method_3_code 67 = .ok (.invokevirtual 111, 3) := by decide +kernel
theorem q_CH_end_67 : jlm lw_tbl 965 "ChessHouse" 111 ⟨"ChessHouse", "lineStop", "(I)I"⟩ = true := by decide +kernel
theorem d_CH_end_98 : decode prog_1_method_3_code 98 = .ok (.invokevirtual 115, 3) := by decide +kernel
theorem q_CH_end_98 : jlm lw_tbl 969 "ChessHouse" 115 ⟨"ChessHouse$Words", "take", "([BII)LChessHouse$Command;"⟩ = true := by decide +kernel
theorem d_CH_end_102 : decode prog_1_method_3_code 102 = .ok (.invokevirtual 119, 3) := by decide +kernel
theorem q_CH_end_102 : jlm lw_tbl 1037 "ChessHouse" 119 ⟨"ChessHouse", "perform", "(LChessHouse$Command;I)V"⟩ = true := by decide +kernel
theorem d_CH_end_120 : decode prog_1_method_3_code 120 = .ok (.ireturn, 1) := by decide +kernel
def y_MB_init : jY := (⟨"ChessHouseModel$Board", "<init>", "()V"⟩, prog_16_method_1_code, 1, none)
theorem m_MB_init : jmth lw_tbl y_MB_init 0 := ⟨jTA_in (wi := 2167) (by decide +kernel) rfl, jTA_in (wi := 316) (by decide +kernel) rfl, by decide, by decide, by decide +kernel⟩
theorem i_MB_init : Jvm.Cond.instanceMethod y_MB_init.1 ∈ jTA lw_tbl := jTA_in (wi := 2166) (by decide +kernel) rfl
def kk_MB_init_0 : List jI := [(.aload_n 0, 1, (0, 0, 0, 0, 0)), (.invokespecial 3, 3, (0, 0, 0, 0, 0)), (.aload_n 0, 1, (0, 0, 0, 0, 0)), (.ldc 9, 2, (0, 0, 2169, 65536, 0)), (.newarray .char, 2, (0, 0, 0, 0, 0)), (.putfield 10, 3, (13, 1, 2172, 3, 0)), (.aload_n 0, 1, (0, 0, 0, 0, 0)), (.bipush 64, 2, (0, 0, 0, 64, 0)), (.newarray .int, 2, (0, 0, 0, 0, 0)), (.putfield 16, 3, (13, 2, 2174, 3, 0)), (.aload_n 0, 1, (0, 0, 0, 0, 0)), (.iconst (-1), 1, (0, 0, 0, (-1), 0)), (.putfield 20, 3, (13, 5, 2180, 0, 0)), (.aload_n 0, 1, (0, 0, 0, 0, 0)), (.sipush 19520, 3, (0, 0, 0, 19520, 0)), (.newarray .int, 2, (0, 0, 0, 0, 0)), (.putfield 24, 3, (13, 9, 2188, 3, 0)), (.aload_n 0, 1, (0, 0, 0, 0, 0)), (.sipush 305, 3, (0, 0, 0, 305, 0)), (.newarray .int, 2, (0, 0, 0, 0, 0)), (.putfield 27, 3, (13, 10, 2189, 3, 0)), (.aload_n 0, 1, (0, 0, 0, 0, 0)), (.sipush 305, 3, (0, 0, 0, 305, 0)), (.newarray .int, 2, (0, 0, 0, 0, 0)), (.putfield 30, 3, (13, 11, 2190, 3, 0)), (.aload_n 0, 1, (0, 0, 0, 0, 0)), (.sipush 305, 3, (0, 0, 0, 305, 0)), (.newarray .int, 2, (0, 0, 0, 0, 0)), (.putfield 33, 3, (13, 12, 2191, 3, 0)), (.aload_n 0, 1, (0, 0, 0, 0, 0)), (.sipush 305, 3, (0, 0, 0, 305, 0)), (.newarray .int, 2, (0, 0, 0, 0, 0)), (.putfield 36, 3, (13, 13, 2192, 3, 0)), (.aload_n 0, 1, (0, 0, 0, 0, 0)), (.sipush 305, 3, (0, 0, 0, 305, 0)), (.newarray .int, 2, (0, 0, 0, 0, 0)), (.putfield 39, 3, (13, 14, 2193, 3, 0)), (.aload_n 0, 1, (0, 0, 0, 0, 0)), (.bipush 11, 2, (0, 0, 0, 11, 0)), (.newarray .int, 2, (0, 0, 0, 0, 0)), (.putfield 42, 3, (13, 15, 2194, 3, 0)), (.aload_n 0, 1, (0, 0, 0, 0, 0)), (.bipush 11, 2, (0, 0, 0, 11, 0)), (.newarray .int, 2, (0, 0, 0, 0, 0)), (.putfield 45, 3, (13, 16, 2195, 3, 0)), (.aload_n 0, 1, (0, 0, 0, 0, 0)), (.bipush 11, 2, (0, 0, 0, 11, 0)), (.newarray .int, 2, (0, 0, 0, 0, 0)), (.putfield 48, 3, (13, 17, 2196, 3, 0)), (.aload_n 0, 1, (0, 0, 0, 0, 0)), (.bipush 11, 2, (0, 0, 0, 11, 0)), (.newarray .int, 2, (0, 0, 0, 0, 0)), (.putfield 51, 3, (13, 18, 2197, 3, 0)), (.aload_n 0, 1, (0, 0, 0, 0, 0)), (.bipush 11, 2, (0, 0, 0, 11, 0)), (.newarray .int, 2, (0, 0, 0, 0, 0)), (.putfield 54, 3, (13, 19, 2198, 3, 0)), (.aload_n 0, 1, (0, 0, 0, 0, 0)), (.bipush 11, 2, (0, 0, 0, 11, 0)), (.newarray .int, 2, (0, 0, 0, 0, 0)), (.putfield 57, 3, (13, 20, 2199, 3, 0)), (.aload_n 0, 1, (0, 0, 0, 0, 0)), (.sipush 20480, 3, (0, 0, 0, 20480, 0)), (.newarray .int, 2, (0, 0, 0, 0, 0)), (.putfield 60, 3, (13, 21, 2200, 3, 0)), (.aload_n 0, 1, (0, 0, 0, 0, 0)), (.bipush 10, 2, (0, 0, 0, 10, 0)), (.newarray .int, 2, (0, 0, 0, 0, 0)), (.putfield 63, 3, (13, 22, 2201, 3, 0)), (.aload_n 0, 1, (0, 0, 0, 0, 0)), (.iconst 4, 1, (0, 0, 0, 4, 0)), (.newarray .int, 2, (0, 0, 0, 0, 0)), (.putfield 66, 3, (13, 28, 2210, 3, 0)), (.aload_n 0, 1, (0, 0, 0, 0, 0)), (.sipush 2048, 3, (0, 0, 0, 2048, 0)), (.newarray .int, 2, (0, 0, 0, 0, 0)), (.putfield 69, 3, (13, 30, 2214, 3, 0)), (.aload_n 0, 1, (0, 0, 0, 0, 0)), (.iconst 4, 1, (0, 0, 0, 4, 0)), (.newarray .int, 2, (0, 0, 0, 0, 0)), (.putfield 72, 3, (13, 33, 2220, 3, 0)), (.aload_n 0, 1, (0, 0, 0, 0, 0)), (.iconst 4, 1, (0, 0, 0, 4, 0)), (.newarray .int, 2, (0, 0, 0, 0, 0)), (.putfield 75, 3, (13, 34, 2222, 3, 0)), (.return_, 1, (0, 0, 0, 0, 0))]
theorem oo_MB_init_0 : jokL "ChessHouseModel$Board" lw_tbl jcl jtb 1 true prog_16_method_1_code 0 kk_MB_init_0 = true := by decide +kernel
def k_MB_init_0 : List jI := [(.aload_n 0, 1, (0, 0, 0, 0, 0))]
theorem o_MB_init_0 : jokL "ChessHouseModel$Board" lw_tbl jcl jtb 1 true prog_16_method_1_code 0 k_MB_init_0 = true := jok_sub oo_MB_init_0 0 1 rfl rfl
def k_MB_init_4 : List jI := [(.aload_n 0, 1, (0, 0, 0, 0, 0)), (.ldc 9, 2, (0, 0, 2169, 65536, 0))]
theorem o_MB_init_4 : jokL "ChessHouseModel$Board" lw_tbl jcl jtb 1 true prog_16_method_1_code 4 k_MB_init_4 = true := jok_sub oo_MB_init_0 2 2 rfl rfl
def k_MB_init_9 : List jI := [(.putfield 10, 3, (13, 1, 2172, 3, 0)), (.aload_n 0, 1, (0, 0, 0, 0, 0)), (.bipush 64, 2, (0, 0, 0, 64, 0))]
theorem o_MB_init_9 : jokL "ChessHouseModel$Board" lw_tbl jcl jtb 1 true prog_16_method_1_code 9 k_MB_init_9 = true := jok_sub oo_MB_init_0 5 3 rfl rfl
def k_MB_init_17 : List jI := [(.putfield 16, 3, (13, 2, 2174, 3, 0)), (.aload_n 0, 1, (0, 0, 0, 0, 0)), (.iconst (-1), 1, (0, 0, 0, (-1), 0)), (.putfield 20, 3, (13, 5, 2180, 0, 0)), (.aload_n 0, 1, (0, 0, 0, 0, 0)), (.sipush 19520, 3, (0, 0, 0, 19520, 0))]
theorem o_MB_init_17 : jokL "ChessHouseModel$Board" lw_tbl jcl jtb 1 true prog_16_method_1_code 17 k_MB_init_17 = true := jok_sub oo_MB_init_0 9 6 rfl rfl
def k_MB_init_31 : List jI := [(.putfield 24, 3, (13, 9, 2188, 3, 0)), (.aload_n 0, 1, (0, 0, 0, 0, 0)), (.sipush 305, 3, (0, 0, 0, 305, 0))]
theorem o_MB_init_31 : jokL "ChessHouseModel$Board" lw_tbl jcl jtb 1 true prog_16_method_1_code 31 k_MB_init_31 = true := jok_sub oo_MB_init_0 16 3 rfl rfl
def k_MB_init_40 : List jI := [(.putfield 27, 3, (13, 10, 2189, 3, 0)), (.aload_n 0, 1, (0, 0, 0, 0, 0)), (.sipush 305, 3, (0, 0, 0, 305, 0))]
theorem o_MB_init_40 : jokL "ChessHouseModel$Board" lw_tbl jcl jtb 1 true prog_16_method_1_code 40 k_MB_init_40 = true := jok_sub oo_MB_init_0 20 3 rfl rfl
def k_MB_init_49 : List jI := [(.putfield 30, 3, (13, 11, 2190, 3, 0)), (.aload_n 0, 1, (0, 0, 0, 0, 0)), (.sipush 305, 3, (0, 0, 0, 305, 0))]
theorem o_MB_init_49 : jokL "ChessHouseModel$Board" lw_tbl jcl jtb 1 true prog_16_method_1_code 49 k_MB_init_49 = true := jok_sub oo_MB_init_0 24 3 rfl rfl
def k_MB_init_58 : List jI := [(.putfield 33, 3, (13, 12, 2191, 3, 0)), (.aload_n 0, 1, (0, 0, 0, 0, 0)), (.sipush 305, 3, (0, 0, 0, 305, 0))]
theorem o_MB_init_58 : jokL "ChessHouseModel$Board" lw_tbl jcl jtb 1 true prog_16_method_1_code 58 k_MB_init_58 = true := jok_sub oo_MB_init_0 28 3 rfl rfl
def k_MB_init_67 : List jI := [(.putfield 36, 3, (13, 13, 2192, 3, 0)), (.aload_n 0, 1, (0, 0, 0, 0, 0)), (.sipush 305, 3, (0, 0, 0, 305, 0))]
theorem o_MB_init_67 : jokL "ChessHouseModel$Board" lw_tbl jcl jtb 1 true prog_16_method_1_code 67 k_MB_init_67 = true := jok_sub oo_MB_init_0 32 3 rfl rfl
def k_MB_init_76 : List jI := [(.putfield 39, 3, (13, 14, 2193, 3, 0)), (.aload_n 0, 1, (0, 0, 0, 0, 0)), (.bipush 11, 2, (0, 0, 0, 11, 0))]
theorem o_MB_init_76 : jokL "ChessHouseModel$Board" lw_tbl jcl jtb 1 true prog_16_method_1_code 76 k_MB_init_76 = true := jok_sub oo_MB_init_0 36 3 rfl rfl
def k_MB_init_84 : List jI := [(.putfield 42, 3, (13, 15, 2194, 3, 0)), (.aload_n 0, 1, (0, 0, 0, 0, 0)), (.bipush 11, 2, (0, 0, 0, 11, 0))]
theorem o_MB_init_84 : jokL "ChessHouseModel$Board" lw_tbl jcl jtb 1 true prog_16_method_1_code 84 k_MB_init_84 = true := jok_sub oo_MB_init_0 40 3 rfl rfl
def k_MB_init_92 : List jI := [(.putfield 45, 3, (13, 16, 2195, 3, 0)), (.aload_n 0, 1, (0, 0, 0, 0, 0)), (.bipush 11, 2, (0, 0, 0, 11, 0))]
theorem o_MB_init_92 : jokL "ChessHouseModel$Board" lw_tbl jcl jtb 1 true prog_16_method_1_code 92 k_MB_init_92 = true := jok_sub oo_MB_init_0 44 3 rfl rfl
def k_MB_init_100 : List jI := [(.putfield 48, 3, (13, 17, 2196, 3, 0)), (.aload_n 0, 1, (0, 0, 0, 0, 0)), (.bipush 11, 2, (0, 0, 0, 11, 0))]
theorem o_MB_init_100 : jokL "ChessHouseModel$Board" lw_tbl jcl jtb 1 true prog_16_method_1_code 100 k_MB_init_100 = true := jok_sub oo_MB_init_0 48 3 rfl rfl
def k_MB_init_108 : List jI := [(.putfield 51, 3, (13, 18, 2197, 3, 0)), (.aload_n 0, 1, (0, 0, 0, 0, 0)), (.bipush 11, 2, (0, 0, 0, 11, 0))]
theorem o_MB_init_108 : jokL "ChessHouseModel$Board" lw_tbl jcl jtb 1 true prog_16_method_1_code 108 k_MB_init_108 = true := jok_sub oo_MB_init_0 52 3 rfl rfl
def k_MB_init_116 : List jI := [(.putfield 54, 3, (13, 19, 2198, 3, 0)), (.aload_n 0, 1, (0, 0, 0, 0, 0)), (.bipush 11, 2, (0, 0, 0, 11, 0))]
theorem o_MB_init_116 : jokL "ChessHouseModel$Board" lw_tbl jcl jtb 1 true prog_16_method_1_code 116 k_MB_init_116 = true := jok_sub oo_MB_init_0 56 3 rfl rfl
def k_MB_init_124 : List jI := [(.putfield 57, 3, (13, 20, 2199, 3, 0)), (.aload_n 0, 1, (0, 0, 0, 0, 0)), (.sipush 20480, 3, (0, 0, 0, 20480, 0))]
theorem o_MB_init_124 : jokL "ChessHouseModel$Board" lw_tbl jcl jtb 1 true prog_16_method_1_code 124 k_MB_init_124 = true := jok_sub oo_MB_init_0 60 3 rfl rfl
def k_MB_init_133 : List jI := [(.putfield 60, 3, (13, 21, 2200, 3, 0)), (.aload_n 0, 1, (0, 0, 0, 0, 0)), (.bipush 10, 2, (0, 0, 0, 10, 0))]
theorem o_MB_init_133 : jokL "ChessHouseModel$Board" lw_tbl jcl jtb 1 true prog_16_method_1_code 133 k_MB_init_133 = true := jok_sub oo_MB_init_0 64 3 rfl rfl
def k_MB_init_141 : List jI := [(.putfield 63, 3, (13, 22, 2201, 3, 0)), (.aload_n 0, 1, (0, 0, 0, 0, 0)), (.iconst 4, 1, (0, 0, 0, 4, 0))]
theorem o_MB_init_141 : jokL "ChessHouseModel$Board" lw_tbl jcl jtb 1 true prog_16_method_1_code 141 k_MB_init_141 = true := jok_sub oo_MB_init_0 68 3 rfl rfl
def k_MB_init_148 : List jI := [(.putfield 66, 3, (13, 28, 2210, 3, 0)), (.aload_n 0, 1, (0, 0, 0, 0, 0)), (.sipush 2048, 3, (0, 0, 0, 2048, 0))]
theorem o_MB_init_148 : jokL "ChessHouseModel$Board" lw_tbl jcl jtb 1 true prog_16_method_1_code 148 k_MB_init_148 = true := jok_sub oo_MB_init_0 72 3 rfl rfl
def k_MB_init_157 : List jI := [(.putfield 69, 3, (13, 30, 2214, 3, 0)), (.aload_n 0, 1, (0, 0, 0, 0, 0)), (.iconst 4, 1, (0, 0, 0, 4, 0))]
theorem o_MB_init_157 : jokL "ChessHouseModel$Board" lw_tbl jcl jtb 1 true prog_16_method_1_code 157 k_MB_init_157 = true := jok_sub oo_MB_init_0 76 3 rfl rfl
def k_MB_init_164 : List jI := [(.putfield 72, 3, (13, 33, 2220, 3, 0)), (.aload_n 0, 1, (0, 0, 0, 0, 0)), (.iconst 4, 1, (0, 0, 0, 4, 0))]
theorem o_MB_init_164 : jokL "ChessHouseModel$Board" lw_tbl jcl jtb 1 true prog_16_method_1_code 164 k_MB_init_164 = true := jok_sub oo_MB_init_0 80 3 rfl rfl
def k_MB_init_171 : List jI := [(.putfield 75, 3, (13, 34, 2222, 3, 0))]
theorem o_MB_init_171 : jokL "ChessHouseModel$Board" lw_tbl jcl jtb 1 true prog_16_method_1_code 171 k_MB_init_171 = true := jok_sub oo_MB_init_0 84 1 rfl rfl
theorem d_MB_init_1 : decode prog_16_method_1_code 1 = .ok (.invokespecial 3, 3) := by decide +kernel
theorem d_MB_init_7 : decode prog_16_method_1_code 7 = .ok (.newarray .char, 2) := by decide +kernel
theorem d_MB_init_15 : decode prog_16_method_1_code 15 = .ok (.newarray .int, 2) := by decide +kernel
theorem d_MB_init_29 : decode prog_16_method_1_code 29 = .ok (.newarray .int, 2) := by decide +kernel
theorem d_MB_init_38 : decode prog_16_method_1_code 38 = .ok (.newarray .int, 2) := by decide +kernel
theorem d_MB_init_47 : decode prog_16_method_1_code 47 = .ok (.newarray .int, 2) := by decide +kernel
theorem d_MB_init_56 : decode prog_16_method_1_code 56 = .ok (.newarray .int, 2) := by decide +kernel
theorem d_MB_init_65 : decode prog_16_method_1_code 65 = .ok (.newarray .int, 2) := by decide +kernel
theorem d_MB_init_74 : decode prog_16_method_1_code 74 = .ok (.newarray .int, 2) := by decide +kernel
theorem d_MB_init_82 : decode prog_16_method_1_code 82 = .ok (.newarray .int, 2) := by decide +kernel
theorem d_MB_init_90 : decode prog_16_method_1_code 90 = .ok (.newarray .int, 2) := by decide +kernel
theorem d_MB_init_98 : decode prog_16_method_1_code 98 = .ok (.newarray .int, 2) := by decide +kernel
theorem d_MB_init_106 : decode prog_16_method_1_code 106 = .ok (.newarray .int, 2) := by decide +kernel
theorem d_MB_init_114 : decode prog_16_method_1_code 114 = .ok (.newarray .int, 2) := by decide +kernel
theorem d_MB_init_122 : decode prog_16_method_1_code 122 = .ok (.newarray .int, 2) := by decide +kernel
theorem d_MB_init_131 : decode prog_16_method_1_code 131 = .ok (.newarray .int, 2) := by decide +kernel
theorem d_MB_init_139 : decode prog_16_method_1_code 139 = .ok (.newarray .int, 2) := by decide +kernel
theorem d_MB_init_146 : decode prog_16_method_1_code 146 = .ok (.newarray .int, 2) := by decide +kernel
theorem d_MB_init_155 : decode prog_16_method_1_code 155 = .ok (.newarray .int, 2) := by decide +kernel
theorem d_MB_init_162 : decode prog_16_method_1_code 162 = .ok (.newarray .int, 2) := by decide +kernel
theorem d_MB_init_169 : decode prog_16_method_1_code 169 = .ok (.newarray .int, 2) := by decide +kernel
theorem d_MB_init_174 : decode prog_16_method_1_code 174 = .ok (.return_, 1) := by decide +kernel
def y_MT_kind : jY := (⟨"ChessHouseModel$Texts", "kind", "(I)I"⟩, prog_18_method_3_code, 1, (some .int))
theorem m_MT_kind : jmth lw_tbl y_MT_kind 1 := ⟨jTA_in (wi := 1943) (by decide +kernel) rfl, jTA_in (wi := 315) (by decide +kernel) rfl, by decide, by decide, by decide +kernel⟩
theorem s_MT_kind : Jvm.Cond.static y_MT_kind.1 ∈ jTA lw_tbl := jTA_in (wi := 1942) (by decide +kernel) rfl
def kk_MT_kind_0 : List jI := [(.iload_n 0, 1, (0, 0, 0, 0, 0)), (.bipush 7, 2, (0, 0, 0, 7, 0)), (.iand, 1, (0, 0, 0, 0, 0)), (.ireturn, 1, (0, 0, 0, 0, 0))]
theorem oo_MT_kind_0 : jokL "ChessHouseModel$Texts" lw_tbl jcl jtb 1 false prog_18_method_3_code 0 kk_MT_kind_0 = true := by decide +kernel
def k_MT_kind_0 : List jI := [(.iload_n 0, 1, (0, 0, 0, 0, 0)), (.bipush 7, 2, (0, 0, 0, 7, 0)), (.iand, 1, (0, 0, 0, 0, 0))]
theorem o_MT_kind_0 : jokL "ChessHouseModel$Texts" lw_tbl jcl jtb 1 false prog_18_method_3_code 0 k_MT_kind_0 = true := jok_sub oo_MT_kind_0 0 3 rfl rfl
theorem d_MT_kind_4 : decode prog_18_method_3_code 4 = .ok (.ireturn, 1) := by decide +kernel
end
section
def y_MT_sideOf : jY := (⟨"ChessHouseModel$Texts", "sideOf", "(I)I"⟩, prog_18_method_4_code, 1, (some .int))
theorem m_MT_sideOf : jmth lw_tbl y_MT_sideOf 1 := ⟨jTA_in (wi := 1965) (by decide +kernel) rfl, jTA_in (wi := 315) (by decide +kernel) rfl, by decide, by decide, by decide +kernel⟩
theorem s_MT_sideOf : Jvm.Cond.static y_MT_sideOf.1 ∈ jTA lw_tbl := jTA_in (wi := 1964) (by decide +kernel) rfl
def kk_MT_sideOf_0 : List jI := [(.iload_n 0, 1, (0, 0, 0, 0, 0)), (.ifCond .ne 7, 3, (8, 0, 0, 0, 0)), (.iconst (-1), 1, (0, 0, 0, (-1), 0)), (.goto 6, 3, (11, 0, 0, 0, 0)), (.iload_n 0, 1, (0, 0, 0, 0, 0)), (.iconst 3, 1, (0, 0, 0, 3, 0)), (.ishr, 1, (0, 0, 0, 0, 0)), (.ireturn, 1, (0, 0, 0, 0, 0))]
theorem oo_MT_sideOf_0 : jokL "ChessHouseModel$Texts" lw_tbl jcl jtb 1 false prog_18_method_4_code 0 kk_MT_sideOf_0 = true := by decide +kernel
def k_MT_sideOf_0 : List jI := [(.iload_n 0, 1, (0, 0, 0, 0, 0)), (.ifCond .ne 7, 3, (8, 0, 0, 0, 0)), (.iconst (-1), 1, (0, 0, 0, (-1), 0)), (.goto 6, 3, (11, 0, 0, 0, 0))]
theorem o_MT_sideOf_0 : jokL "ChessHouseModel$Texts" lw_tbl jcl jtb 1 false prog_18_method_4_code 0 k_MT_sideOf_0 = true := jok_sub oo_MT_sideOf_0 0 4 rfl rfl
def k_MT_sideOf_8 : List jI := [(.iload_n 0, 1, (0, 0, 0, 0, 0)), (.iconst 3, 1, (0, 0, 0, 3, 0)), (.ishr, 1, (0, 0, 0, 0, 0))]
theorem o_MT_sideOf_8 : jokL "ChessHouseModel$Texts" lw_tbl jcl jtb 1 false prog_18_method_4_code 8 k_MT_sideOf_8 = true := jok_sub oo_MT_sideOf_0 4 3 rfl rfl
theorem d_MT_sideOf_11 : decode prog_18_method_4_code 11 = .ok (.ireturn, 1) := by decide +kernel
def y_MT_step : jY := (⟨"ChessHouseModel$Texts", "step", "(III)I"⟩, prog_18_method_5_code, 5, (some .int))
theorem m_MT_step : jmth lw_tbl y_MT_step 3 := ⟨jTA_in (wi := 1954) (by decide +kernel) rfl, jTA_in (wi := 315) (by decide +kernel) rfl, by decide, by decide, by decide +kernel⟩
theorem s_MT_step : Jvm.Cond.static y_MT_step.1 ∈ jTA lw_tbl := jTA_in (wi := 1953) (by decide +kernel) rfl
def kk_MT_step_0 : List jI := [(.iload_n 0, 1, (0, 0, 0, 0, 0)), (.bipush 8, 2, (0, 0, 0, 8, 0)), (.irem, 1, (0, 0, 0, 0, 0)), (.iload_n 1, 1, (1, 0, 0, 0, 0)), (.iadd, 1, (0, 0, 0, 0, 0)), (.istore_n 3, 1, (3, 0, 0, 0, 0)), (.iload_n 0, 1, (0, 0, 0, 0, 0)), (.bipush 8, 2, (0, 0, 0, 8, 0)), (.idiv, 1, (0, 0, 0, 0, 0)), (.iload_n 2, 1, (2, 0, 0, 0, 0)), (.iadd, 1, (0, 0, 0, 0, 0)), (.istore 4, 2, (4, 0, 0, 0, 0)), (.iload_n 3, 1, (3, 0, 0, 0, 0)), (.ifCond .lt 31, 3, (47, 0, 0, 0, 0)), (.iload_n 3, 1, (3, 0, 0, 0, 0)), (.bipush 8, 2, (0, 0, 0, 8, 0)), (.if_icmp .ge 25, 3, (47, 0, 0, 0, 0)), (.iload 4, 2, (4, 0, 0, 0, 0)), (.ifCond .lt 20, 3, (47, 0, 0, 0, 0)), (.iload 4, 2, (4, 0, 0, 0, 0)), (.bipush 8, 2, (0, 0, 0, 8, 0)), (.if_icmp .ge 13, 3, (47, 0, 0, 0, 0)), (.bipush 8, 2, (0, 0, 0, 8, 0)), (.iload 4, 2, (4, 0, 0, 0, 0)), (.imul, 1, (0, 0, 0, 0, 0)), (.iload_n 3, 1, (3, 0, 0, 0, 0)), (.iadd, 1, (0, 0, 0, 0, 0)), (.goto 4, 3, (48, 0, 0, 0, 0)), (.iconst (-1), 1, (0, 0, 0, (-1), 0)), (.ireturn, 1, (0, 0, 0, 0, 0))]
theorem oo_MT_step_0 : jokL "ChessHouseModel$Texts" lw_tbl jcl jtb 5 false prog_18_method_5_code 0 kk_MT_step_0 = true := by decide +kernel
def k_MT_step_0 : List jI := [(.iload_n 0, 1, (0, 0, 0, 0, 0)), (.bipush 8, 2, (0, 0, 0, 8, 0)), (.irem, 1, (0, 0, 0, 0, 0)), (.iload_n 1, 1, (1, 0, 0, 0, 0)), (.iadd, 1, (0, 0, 0, 0, 0)), (.istore_n 3, 1, (3, 0, 0, 0, 0)), (.iload_n 0, 1, (0, 0, 0, 0, 0)), (.bipush 8, 2, (0, 0, 0, 8, 0)), (.idiv, 1, (0, 0, 0, 0, 0)), (.iload_n 2, 1, (2, 0, 0, 0, 0)), (.iadd, 1, (0, 0, 0, 0, 0)), (.istore 4, 2, (4, 0, 0, 0, 0)), (.iload_n 3, 1, (3, 0, 0, 0, 0)), (.ifCond .lt 31, 3, (47, 0, 0, 0, 0)), (.iload_n 3, 1, (3, 0, 0, 0, 0)), (.bipush 8, 2, (0, 0, 0, 8, 0)), (.if_icmp .ge 25, 3, (47, 0, 0, 0, 0)), (.iload 4, 2, (4, 0, 0, 0, 0)), (.ifCond .lt 20, 3, (47, 0, 0, 0, 0)), (.iload 4, 2, (4, 0, 0, 0, 0)), (.bipush 8, 2, (0, 0, 0, 8, 0)), (.if_icmp .ge 13, 3, (47, 0, 0, 0, 0)), (.bipush 8, 2, (0, 0, 0, 8, 0)), (.iload 4, 2, (4, 0, 0, 0, 0)), (.imul, 1, (0, 0, 0, 0, 0)), (.iload_n 3, 1, (3, 0, 0, 0, 0)), (.iadd, 1, (0, 0, 0, 0, 0)), (.goto 4, 3, (48, 0, 0, 0, 0))]
theorem o_MT_step_0 : jokL "ChessHouseModel$Texts" lw_tbl jcl jtb 5 false prog_18_method_5_code 0 k_MT_step_0 = true := jok_sub oo_MT_step_0 0 28 rfl rfl
def k_MT_step_47 : List jI := [(.iconst (-1), 1, (0, 0, 0, (-1), 0))]
theorem o_MT_step_47 : jokL "ChessHouseModel$Texts" lw_tbl jcl jtb 5 false prog_18_method_5_code 47 k_MT_step_47 = true := jok_sub oo_MT_step_0 28 1 rfl rfl
theorem d_MT_step_48 : decode prog_18_method_5_code 48 = .ok (.ireturn, 1) := by decide +kernel
def y_MT_stands : jY := (⟨"ChessHouseModel$Texts", "stands", "(II)Z"⟩, prog_18_method_6_code, 3, (some .boolean))
theorem m_MT_stands : jmth lw_tbl y_MT_stands 2 := ⟨jTA_in (wi := 1958) (by decide +kernel) rfl, jTA_in (wi := 315) (by decide +kernel) rfl, by decide, by decide, by decide +kernel⟩
theorem i_MT_stands : Jvm.Cond.instanceMethod y_MT_stands.1 ∈ jTA lw_tbl := jTA_in (wi := 1957) (by decide +kernel) rfl
theorem e_MT_stands : Jvm.Cond.selects y_MT_stands.1.cls y_MT_stands.1 y_MT_stands.1 ∈ jTA lw_tbl := jTA_in (wi := 114) (by decide +kernel) rfl
def kk_MT_stands_0 : List jI := [(.iload_n 1, 1, (1, 0, 0, 0, 0)), (.ifCond .lt 17, 3, (18, 0, 0, 0, 0)), (.aload_n 0, 1, (0, 0, 0, 0, 0)), (.getfield 71, 3, (12, 24, 2055, 0, 0)), (.iload_n 1, 1, (1, 0, 0, 0, 0)), (.iaload, 1, (0, 0, 0, 0, 0)), (.iload_n 2, 1, (2, 0, 0, 0, 0)), (.if_icmp .ne 7, 3, (18, 0, 0, 0, 0)), (.iconst 1, 1, (0, 0, 0, 1, 0)), (.goto 4, 3, (19, 0, 0, 0, 0)), (.iconst 0, 1, (0, 0, 0, 0, 0)), (.ireturn, 1, (0, 0, 0, 0, 0))]
theorem oo_MT_stands_0 : jokL "ChessHouseModel$Texts" lw_tbl jcl jtb 3 false prog_18_method_6_code 0 kk_MT_stands_0 = true := by decide +kernel
def k_MT_stands_0 : List jI := [(.iload_n 1, 1, (1, 0, 0, 0, 0)), (.ifCond .lt 17, 3, (18, 0, 0, 0, 0)), (.aload_n 0, 1, (0, 0, 0, 0, 0)), (.getfield 71, 3, (12, 24, 2055, 0, 0)), (.iload_n 1, 1, (1, 0, 0, 0, 0)), (.iaload, 1, (0, 0, 0, 0, 0)), (.iload_n 2, 1, (2, 0, 0, 0, 0)), (.if_icmp .ne 7, 3, (18, 0, 0, 0, 0)), (.iconst 1, 1, (0, 0, 0, 1, 0)), (.goto 4, 3, (19, 0, 0, 0, 0))]
theorem o_MT_stands_0 : jokL "ChessHouseModel$Texts" lw_tbl jcl jtb 3 false prog_18_method_6_code 0 k_MT_stands_0 = true := jok_sub oo_MT_stands_0 0 10 rfl rfl
def k_MT_stands_18 : List jI := [(.iconst 0, 1, (0, 0, 0, 0, 0))]
theorem o_MT_stands_18 : jokL "ChessHouseModel$Texts" lw_tbl jcl jtb 3 false prog_18_method_6_code 18 k_MT_stands_18 = true := jok_sub oo_MT_stands_0 10 1 rfl rfl
theorem d_MT_stands_19 : decode prog_18_method_6_code 19 = .ok (.ireturn, 1) := by decide +kernel
def y_MT_met : jY := (⟨"ChessHouseModel$Texts", "met", "(III)I"⟩, prog_18_method_7_code, 5, (some .int))
theorem m_MT_met : jmth lw_tbl y_MT_met 3 := ⟨jTA_in (wi := 1989) (by decide +kernel) rfl, jTA_in (wi := 315) (by decide +kernel) rfl, by decide, by decide, by decide +kernel⟩
theorem i_MT_met : Jvm.Cond.instanceMethod y_MT_met.1 ∈ jTA lw_tbl := jTA_in (wi := 1988) (by decide +kernel) rfl
theorem e_MT_met : Jvm.Cond.selects y_MT_met.1.cls y_MT_met.1 y_MT_met.1 ∈ jTA lw_tbl := jTA_in (wi := 121) (by decide +kernel) rfl
def kk_MT_met_0 : List jI := [(.iload_n 1, 1, (1, 0, 0, 0, 0)), (.iload_n 2, 1, (2, 0, 0, 0, 0)), (.iload_n 3, 1, (3, 0, 0, 0, 0)), (.invokestatic 104, 3, (0, 0, 0, 0, 0)), (.istore 4, 2, (4, 0, 0, 0, 0)), (.iload 4, 2, (4, 0, 0, 0, 0)), (.ifCond .lt 25, 3, (35, 0, 0, 0, 0)), (.aload_n 0, 1, (0, 0, 0, 0, 0)), (.getfield 71, 3, (12, 24, 2055, 0, 0)), (.iload 4, 2, (4, 0, 0, 0, 0)), (.iaload, 1, (0, 0, 0, 0, 0)), (.ifCond .ne 15, 3, (35, 0, 0, 0, 0)), (.iload 4, 2, (4, 0, 0, 0, 0)), (.iload_n 2, 1, (2, 0, 0, 0, 0)), (.iload_n 3, 1, (3, 0, 0, 0, 0)), (.invokestatic 104, 3, (0, 0, 0, 0, 0)), (.istore 4, 2, (4, 0, 0, 0, 0)), (.goto (-24), 3, (8, 0, 0, 0, 0)), (.iload 4, 2, (4, 0, 0, 0, 0)), (.ifCond .ge 7, 3, (44, 0, 0, 0, 0)), (.iconst 0, 1, (0, 0, 0, 0, 0)), (.goto 10, 3, (51, 0, 0, 0, 0)), (.aload_n 0, 1, (0, 0, 0, 0, 0)), (.getfield 71, 3, (12, 24, 2055, 0, 0)), (.iload 4, 2, (4, 0, 0, 0, 0)), (.iaload, 1, (0, 0, 0, 0, 0)), (.ireturn, 1, (0, 0, 0, 0, 0))]
theorem oo_MT_met_0 : jokL "ChessHouseModel$Texts" lw_tbl jcl jtb 5 false prog_18_method_7_code 0 kk_MT_met_0 = true := by decide +kernel
def k_MT_met_0 : List jI := [(.iload_n 1, 1, (1, 0, 0, 0, 0)), (.iload_n 2, 1, (2, 0, 0, 0, 0)), (.iload_n 3, 1, (3, 0, 0, 0, 0))]
theorem o_MT_met_0 : jokL "ChessHouseModel$Texts" lw_tbl jcl jtb 5 false prog_18_method_7_code 0 k_MT_met_0 = true := jok_sub oo_MT_met_0 0 3 rfl rfl
def k_MT_met_6 : List jI := [(.istore 4, 2, (4, 0, 0, 0, 0))]
theorem o_MT_met_6 : jokL "ChessHouseModel$Texts" lw_tbl jcl jtb 5 false prog_18_method_7_code 6 k_MT_met_6 = true := jok_sub oo_MT_met_0 4 1 rfl rfl
def k_MT_met_8 : List jI := [(.iload 4, 2, (4, 0, 0, 0, 0)), (.ifCond .lt 25, 3, (35, 0, 0, 0, 0)), (.aload_n 0, 1, (0, 0, 0, 0, 0)), (.getfield 71, 3, (12, 24, 2055, 0, 0)), (.iload 4, 2, (4, 0, 0, 0, 0)), (.iaload, 1, (0, 0, 0, 0, 0)), (.ifCond .ne 15, 3, (35, 0, 0, 0, 0)), (.iload 4, 2, (4, 0, 0, 0, 0)), (.iload_n 2, 1, (2, 0, 0, 0, 0)), (.iload_n 3, 1, (3, 0, 0, 0, 0))]
theorem o_MT_met_8 : jokL "ChessHouseModel$Texts" lw_tbl jcl jtb 5 false prog_18_method_7_code 8 k_MT_met_8 = true := jok_sub oo_MT_met_0 5 10 rfl rfl
def k_MT_met_30 : List jI := [(.istore 4, 2, (4, 0, 0, 0, 0)), (.goto (-24), 3, (8, 0, 0, 0, 0))]
theorem o_MT_met_30 : jokL "ChessHouseModel$Texts" lw_tbl jcl jtb 5 false prog_18_method_7_code 30 k_MT_met_30 = true := jok_sub oo_MT_met_0 16 2 rfl rfl
def k_MT_met_35 : List jI := [(.iload 4, 2, (4, 0, 0, 0, 0)), (.ifCond .ge 7, 3, (44, 0, 0, 0, 0)), (.iconst 0, 1, (0, 0, 0, 0, 0)), (.goto 10, 3, (51, 0, 0, 0, 0))]
theorem o_MT_met_35 : jokL "ChessHouseModel$Texts" lw_tbl jcl jtb 5 false prog_18_method_7_code 35 k_MT_met_35 = true := jok_sub oo_MT_met_0 18 4 rfl rfl
def k_MT_met_44 : List jI := [(.aload_n 0, 1, (0, 0, 0, 0, 0)), (.getfield 71, 3, (12, 24, 2055, 0, 0)), (.iload 4, 2, (4, 0, 0, 0, 0)), (.iaload, 1, (0, 0, 0, 0, 0))]
theorem o_MT_met_44 : jokL "ChessHouseModel$Texts" lw_tbl jcl jtb 5 false prog_18_method_7_code 44 k_MT_met_44 = true := jok_sub oo_MT_met_0 22 4 rfl rfl
theorem d_MT_met_3 : decode prog_18_method_7_code 3 = .ok (.invokestatic 104, 3) := by decide +kernel
theorem q_MT_met_3 : jlm lw_tbl 1952 "ChessHouseModel$Texts" 104 ⟨"ChessHouseModel$Texts", "step", "(III)I"⟩ = true := by decide +kernel
theorem d_MT_met_27 : decode prog_18_method_7_code 27 = .ok (.invokestatic 104, 3) := by decide +kernel
theorem q_MT_met_27 : jlm lw_tbl 1952 "ChessHouseModel$Texts" 104 ⟨"ChessHouseModel$Texts", "step", "(III)I"⟩ = true := by decide +kernel
theorem d_MT_met_51 : decode prog_18_method_7_code 51 = .ok (.ireturn, 1) := by decide +kernel
def y_MT_isAttacked : jY := (⟨"ChessHouseModel$Texts", "isAttacked", "(II)Z"⟩, prog_18_method_8_code, 10, (some .boolean))
theorem m_MT_isAttacked : jmth lw_tbl y_MT_isAttacked 2 := ⟨jTA_in (wi := 1985) (by decide +kernel) rfl, jTA_in (wi := 315) (by decide +kernel) rfl, by decide, by decide, by decide +kernel⟩
theorem i_MT_isAttacked : Jvm.Cond.instanceMethod y_MT_isAttacked.1 ∈ jTA lw_tbl := jTA_in (wi := 1984) (by decide +kernel) rfl
theorem e_MT_isAttacked : Jvm.Cond.selects y_MT_isAttacked.1.cls y_MT_isAttacked.1 y_MT_isAttacked.1 ∈ jTA lw_tbl := jTA_in (wi := 120) (by decide +kernel) rfl
def kk_MT_isAttacked_0 : List jI := [(.bipush 8, 2, (0, 0, 0, 8, 0)), (.iload_n 2, 1, (2, 0, 0, 0, 0)), (.imul, 1, (0, 0, 0, 0, 0)), (.istore_n 3, 1, (3, 0, 0, 0, 0)), (.iload_n 2, 1, (2, 0, 0, 0, 0)), (.ifCond .ne 7, 3, (13, 0, 0, 0, 0)), (.iconst (-1), 1, (0, 0, 0, (-1), 0)), (.goto 4, 3, (14, 0, 0, 0, 0)), (.iconst 1, 1, (0, 0, 0, 1, 0)), (.istore 4, 2, (4, 0, 0, 0, 0)), (.aload_n 0, 1, (0, 0, 0, 0, 0)), (.iload_n 1, 1, (1, 0, 0, 0, 0)), (.iconst (-1), 1, (0, 0, 0, (-1), 0)), (.iload 4, 2, (4, 0, 0, 0, 0)), (.invokestatic 104, 3, (0, 0, 0, 0, 0)), (.iconst 1, 1, (0, 0, 0, 1, 0)), (.iload_n 3, 1, (3, 0, 0, 0, 0)), (.iadd, 1, (0, 0, 0, 0, 0)), (.invokevirtual 108, 3, (0, 0, 0, 0, 0)), (.ifCond .ne 20, 3, (50, 0, 0, 0, 0)), (.aload_n 0, 1, (0, 0, 0, 0, 0)), (.iload_n 1, 1, (1, 0, 0, 0, 0)), (.iconst 1, 1, (0, 0, 0, 1, 0)), (.iload 4, 2, (4, 0, 0, 0, 0)), (.invokestatic 104, 3, (0, 0, 0, 0, 0)), (.iconst 1, 1, (0, 0, 0, 1, 0)), (.iload_n 3, 1, (3, 0, 0, 0, 0)), (.iadd, 1, (0, 0, 0, 0, 0)), (.invokevirtual 108, 3, (0, 0, 0, 0, 0)), (.ifCond .eq 7, 3, (54, 0, 0, 0, 0)), (.iconst 1, 1, (0, 0, 0, 1, 0)), (.goto 4, 3, (55, 0, 0, 0, 0)), (.iconst 0, 1, (0, 0, 0, 0, 0)), (.istore 5, 2, (5, 0, 0, 0, 0)), (.bipush (-2), 2, (0, 0, 0, (-2), 0)), (.istore 6, 2, (6, 0, 0, 0, 0)), (.iload 6, 2, (6, 0, 0, 0, 0)), (.iconst 3, 1, (0, 0, 0, 3, 0)), (.if_icmp .ge 165, 3, (229, 0, 0, 0, 0)), (.bipush (-2), 2, (0, 0, 0, (-2), 0)), (.istore 7, 2, (7, 0, 0, 0, 0)), (.iload 7, 2, (7, 0, 0, 0, 0)), (.iconst 3, 1, (0, 0, 0, 3, 0)), (.if_icmp .ge 149, 3, (223, 0, 0, 0, 0)), (.iload 6, 2, (6, 0, 0, 0, 0)), (.iload 6, 2, (6, 0, 0, 0, 0)), (.imul, 1, (0, 0, 0, 0, 0)), (.iload 7, 2, (7, 0, 0, 0, 0)), (.iload 7, 2, (7, 0, 0, 0, 0)), (.imul, 1, (0, 0, 0, 0, 0)), (.iadd, 1, (0, 0, 0, 0, 0)), (.istore 8, 2, (8, 0, 0, 0, 0)), (.iload 5, 2, (5, 0, 0, 0, 0)), (.ifCond .ne 57, 3, (149, 0, 0, 0, 0)), (.iload 8, 2, (8, 0, 0, 0, 0)), (.iconst 5, 1, (0, 0, 0, 5, 0)), (.if_icmp .ne 21, 3, (119, 0, 0, 0, 0)), (.aload_n 0, 1, (0, 0, 0, 0, 0)), (.iload_n 1, 1, (1, 0, 0, 0, 0)), (.iload 6, 2, (6, 0, 0, 0, 0)), (.iload 7, 2, (7, 0, 0, 0, 0)), (.invokestatic 104, 3, (0, 0, 0, 0, 0)), (.iconst 2, 1, (0, 0, 0, 2, 0)), (.iload_n 3, 1, (3, 0, 0, 0, 0)), (.iadd, 1, (0, 0, 0, 0, 0)), (.invokevirtual 108, 3, (0, 0, 0, 0, 0)), (.ifCond .ne 33, 3, (149, 0, 0, 0, 0)), (.iload 8, 2, (8, 0, 0, 0, 0)), (.ifCond .le 32, 3, (153, 0, 0, 0, 0)), (.iload 8, 2, (8, 0, 0, 0, 0)), (.iconst 3, 1, (0, 0, 0, 3, 0)), (.if_icmp .ge 26, 3, (153, 0, 0, 0, 0)), (.aload_n 0, 1, (0, 0, 0, 0, 0)), (.iload_n 1, 1, (1, 0, 0, 0, 0)), (.iload 6, 2, (6, 0, 0, 0, 0)), (.iload 7, 2, (7, 0, 0, 0, 0)), (.invokestatic 104, 3, (0, 0, 0, 0, 0)), (.bipush 6, 2, (0, 0, 0, 6, 0)), (.iload_n 3, 1, (3, 0, 0, 0, 0)), (.iadd, 1, (0, 0, 0, 0, 0)), (.invokevirtual 108, 3, (0, 0, 0, 0, 0)), (.ifCond .eq 7, 3, (153, 0, 0, 0, 0)), (.iconst 1, 1, (0, 0, 0, 1, 0)), (.goto 4, 3, (154, 0, 0, 0, 0)), (.iconst 0, 1, (0, 0, 0, 0, 0)), (.istore 5, 2, (5, 0, 0, 0, 0)), (.iload 8, 2, (8, 0, 0, 0, 0)), (.iconst 1, 1, (0, 0, 0, 1, 0)), (.if_icmp .eq 9, 3, (168, 0, 0, 0, 0)), (.iload 8, 2, (8, 0, 0, 0, 0)), (.iconst 2, 1, (0, 0, 0, 2, 0)), (.if_icmp .ne 52, 3, (217, 0, 0, 0, 0)), (.aload_n 0, 1, (0, 0, 0, 0, 0)), (.iload_n 1, 1, (1, 0, 0, 0, 0)), (.iload 6, 2, (6, 0, 0, 0, 0)), (.iload 7, 2, (7, 0, 0, 0, 0)), (.invokevirtual 112, 3, (0, 0, 0, 0, 0)), (.istore 9, 2, (9, 0, 0, 0, 0)), (.iload 5, 2, (5, 0, 0, 0, 0)), (.ifCond .ne 29, 3, (210, 0, 0, 0, 0)), (.iload 9, 2, (9, 0, 0, 0, 0)), (.iconst 5, 1, (0, 0, 0, 5, 0)), (.iload_n 3, 1, (3, 0, 0, 0, 0)), (.iadd, 1, (0, 0, 0, 0, 0)), (.if_icmp .eq 21, 3, (210, 0, 0, 0, 0)), (.iload 9, 2, (9, 0, 0, 0, 0)), (.iload 8, 2, (8, 0, 0, 0, 0)), (.iconst 1, 1, (0, 0, 0, 1, 0)), (.if_icmp .ne 7, 3, (204, 0, 0, 0, 0)), (.iconst 4, 1, (0, 0, 0, 4, 0)), (.goto 4, 3, (205, 0, 0, 0, 0))]
theorem oo_MT_isAttacked_0 : jokL "ChessHouseModel$Texts" lw_tbl jcl jtb 10 false prog_18_method_8_code 0 kk_MT_isAttacked_0 = true := by decide +kernel
def kk_MT_isAttacked_204 : List jI := [(.iconst 3, 1, (0, 0, 0, 3, 0)), (.iload_n 3, 1, (3, 0, 0, 0, 0)), (.iadd, 1, (0, 0, 0, 0, 0)), (.if_icmp .ne 7, 3, (214, 0, 0, 0, 0)), (.iconst 1, 1, (0, 0, 0, 1, 0)), (.goto 4, 3, (215, 0, 0, 0, 0)), (.iconst 0, 1, (0, 0, 0, 0, 0)), (.istore 5, 2, (5, 0, 0, 0, 0)), (.iinc 7 1, 3, (0, 0, 0, 1, 0)), (.goto (-149), 3, (71, 0, 0, 0, 0)), (.iinc 6 1, 3, (0, 0, 0, 1, 0)), (.goto (-165), 3, (61, 0, 0, 0, 0)), (.iload 5, 2, (5, 0, 0, 0, 0)), (.ireturn, 1, (0, 0, 0, 0, 0))]
theorem oo_MT_isAttacked_204 : jokL "ChessHouseModel$Texts" lw_tbl jcl jtb 10 false prog_18_method_8_code 204 kk_MT_isAttacked_204 = true := by decide +kernel
def k_MT_isAttacked_0 : List jI := [(.bipush 8, 2, (0, 0, 0, 8, 0)), (.iload_n 2, 1, (2, 0, 0, 0, 0)), (.imul, 1, (0, 0, 0, 0, 0)), (.istore_n 3, 1, (3, 0, 0, 0, 0)), (.iload_n 2, 1, (2, 0, 0, 0, 0)), (.ifCond .ne 7, 3, (13, 0, 0, 0, 0)), (.iconst (-1), 1, (0, 0, 0, (-1), 0)), (.goto 4, 3, (14, 0, 0, 0, 0))]
theorem o_MT_isAttacked_0 : jokL "ChessHouseModel$Texts" lw_tbl jcl jtb 10 false prog_18_method_8_code 0 k_MT_isAttacked_0 = true := jok_sub oo_MT_isAttacked_0 0 8 rfl rfl
def k_MT_isAttacked_13 : List jI := [(.iconst 1, 1, (0, 0, 0, 1, 0))]
theorem o_MT_isAttacked_13 : jokL "ChessHouseModel$Texts" lw_tbl jcl jtb 10 false prog_18_method_8_code 13 k_MT_isAttacked_13 = true := jok_sub oo_MT_isAttacked_0 8 1 rfl rfl
def k_MT_isAttacked_14 : List jI := [(.istore 4, 2, (4, 0, 0, 0, 0)), (.aload_n 0, 1, (0, 0, 0, 0, 0)), (.iload_n 1, 1, (1, 0, 0, 0, 0)), (.iconst (-1), 1, (0, 0, 0, (-1), 0)), (.iload 4, 2, (4, 0, 0, 0, 0))]
theorem o_MT_isAttacked_14 : jokL "ChessHouseModel$Texts" lw_tbl jcl jtb 10 false prog_18_method_8_code 14 k_MT_isAttacked_14 = true := jok_sub oo_MT_isAttacked_0 9 5 rfl rfl
def k_MT_isAttacked_24 : List jI := [(.iconst 1, 1, (0, 0, 0, 1, 0)), (.iload_n 3, 1, (3, 0, 0, 0, 0)), (.iadd, 1, (0, 0, 0, 0, 0))]
theorem o_MT_isAttacked_24 : jokL "ChessHouseModel$Texts" lw_tbl jcl jtb 10 false prog_18_method_8_code 24 k_MT_isAttacked_24 = true := jok_sub oo_MT_isAttacked_0 15 3 rfl rfl
def k_MT_isAttacked_30 : List jI := [(.ifCond .ne 20, 3, (50, 0, 0, 0, 0)), (.aload_n 0, 1, (0, 0, 0, 0, 0)), (.iload_n 1, 1, (1, 0, 0, 0, 0)), (.iconst 1, 1, (0, 0, 0, 1, 0)), (.iload 4, 2, (4, 0, 0, 0, 0))]
theorem o_MT_isAttacked_30 : jokL "ChessHouseModel$Texts" lw_tbl jcl jtb 10 false prog_18_method_8_code 30 k_MT_isAttacked_30 = true := jok_sub oo_MT_isAttacked_0 19 5 rfl rfl
def k_MT_isAttacked_41 : List jI := [(.iconst 1, 1, (0, 0, 0, 1, 0)), (.iload_n 3, 1, (3, 0, 0, 0, 0)), (.iadd, 1, (0, 0, 0, 0, 0))]
theorem o_MT_isAttacked_41 : jokL "ChessHouseModel$Texts" lw_tbl jcl jtb 10 false prog_18_method_8_code 41 k_MT_isAttacked_41 = true := jok_sub oo_MT_isAttacked_0 25 3 rfl rfl
def k_MT_isAttacked_47 : List jI := [(.ifCond .eq 7, 3, (54, 0, 0, 0, 0))]
theorem o_MT_isAttacked_47 : jokL "ChessHouseModel$Texts" lw_tbl jcl jtb 10 false prog_18_method_8_code 47 k_MT_isAttacked_47 = true := jok_sub oo_MT_isAttacked_0 29 1 rfl rfl
def k_MT_isAttacked_50 : List jI := [(.iconst 1, 1, (0, 0, 0, 1, 0)), (.goto 4, 3, (55, 0, 0, 0, 0))]
theorem o_MT_isAttacked_50 : jokL "ChessHouseModel$Texts" lw_tbl jcl jtb 10 false prog_18_method_8_code 50 k_MT_isAttacked_50 = true := jok_sub oo_MT_isAttacked_0 30 2 rfl rfl
def k_MT_isAttacked_54 : List jI := [(.iconst 0, 1, (0, 0, 0, 0, 0))]
theorem o_MT_isAttacked_54 : jokL "ChessHouseModel$Texts" lw_tbl jcl jtb 10 false prog_18_method_8_code 54 k_MT_isAttacked_54 = true := jok_sub oo_MT_isAttacked_0 32 1 rfl rfl
def k_MT_isAttacked_55 : List jI := [(.istore 5, 2, (5, 0, 0, 0, 0)), (.bipush (-2), 2, (0, 0, 0, (-2), 0)), (.istore 6, 2, (6, 0, 0, 0, 0))]
theorem o_MT_isAttacked_55 : jokL "ChessHouseModel$Texts" lw_tbl jcl jtb 10 false prog_18_method_8_code 55 k_MT_isAttacked_55 = true := jok_sub oo_MT_isAttacked_0 33 3 rfl rfl
def k_MT_isAttacked_61 : List jI := [(.iload 6, 2, (6, 0, 0, 0, 0)), (.iconst 3, 1, (0, 0, 0, 3, 0)), (.if_icmp .ge 165, 3, (229, 0, 0, 0, 0)), (.bipush (-2), 2, (0, 0, 0, (-2), 0)), (.istore 7, 2, (7, 0, 0, 0, 0))]
theorem o_MT_isAttacked_61 : jokL "ChessHouseModel$Texts" lw_tbl jcl jtb 10 false prog_18_method_8_code 61 k_MT_isAttacked_61 = true := jok_sub oo_MT_isAttacked_0 36 5 rfl rfl
def k_MT_isAttacked_71 : List jI := [(.iload 7, 2, (7, 0, 0, 0, 0)), (.iconst 3, 1, (0, 0, 0, 3, 0)), (.if_icmp .ge 149, 3, (223, 0, 0, 0, 0)), (.iload 6, 2, (6, 0, 0, 0, 0)), (.iload 6, 2, (6, 0, 0, 0, 0)), (.imul, 1, (0, 0, 0, 0, 0)), (.iload 7, 2, (7, 0, 0, 0, 0)), (.iload 7, 2, (7, 0, 0, 0, 0)), (.imul, 1, (0, 0, 0, 0, 0)), (.iadd, 1, (0, 0, 0, 0, 0)), (.istore 8, 2, (8, 0, 0, 0, 0)), (.iload 5, 2, (5, 0, 0, 0, 0)), (.ifCond .ne 57, 3, (149, 0, 0, 0, 0)), (.iload 8, 2, (8, 0, 0, 0, 0)), (.iconst 5, 1, (0, 0, 0, 5, 0)), (.if_icmp .ne 21, 3, (119, 0, 0, 0, 0)), (.aload_n 0, 1, (0, 0, 0, 0, 0)), (.iload_n 1, 1, (1, 0, 0, 0, 0)), (.iload 6, 2, (6, 0, 0, 0, 0)), (.iload 7, 2, (7, 0, 0, 0, 0))]
theorem o_MT_isAttacked_71 : jokL "ChessHouseModel$Texts" lw_tbl jcl jtb 10 false prog_18_method_8_code 71 k_MT_isAttacked_71 = true := jok_sub oo_MT_isAttacked_0 41 20 rfl rfl
def k_MT_isAttacked_110 : List jI := [(.iconst 2, 1, (0, 0, 0, 2, 0)), (.iload_n 3, 1, (3, 0, 0, 0, 0)), (.iadd, 1, (0, 0, 0, 0, 0))]
theorem o_MT_isAttacked_110 : jokL "ChessHouseModel$Texts" lw_tbl jcl jtb 10 false prog_18_method_8_code 110 k_MT_isAttacked_110 = true := jok_sub oo_MT_isAttacked_0 62 3 rfl rfl
def k_MT_isAttacked_116 : List jI := [(.ifCond .ne 33, 3, (149, 0, 0, 0, 0))]
theorem o_MT_isAttacked_116 : jokL "ChessHouseModel$Texts" lw_tbl jcl jtb 10 false prog_18_method_8_code 116 k_MT_isAttacked_116 = true := jok_sub oo_MT_isAttacked_0 66 1 rfl rfl
def k_MT_isAttacked_119 : List jI := [(.iload 8, 2, (8, 0, 0, 0, 0)), (.ifCond .le 32, 3, (153, 0, 0, 0, 0)), (.iload 8, 2, (8, 0, 0, 0, 0)), (.iconst 3, 1, (0, 0, 0, 3, 0)), (.if_icmp .ge 26, 3, (153, 0, 0, 0, 0)), (.aload_n 0, 1, (0, 0, 0, 0, 0)), (.iload_n 1, 1, (1, 0, 0, 0, 0)), (.iload 6, 2, (6, 0, 0, 0, 0)), (.iload 7, 2, (7, 0, 0, 0, 0))]
theorem o_MT_isAttacked_119 : jokL "ChessHouseModel$Texts" lw_tbl jcl jtb 10 false prog_18_method_8_code 119 k_MT_isAttacked_119 = true := jok_sub oo_MT_isAttacked_0 67 9 rfl rfl
def k_MT_isAttacked_139 : List jI := [(.bipush 6, 2, (0, 0, 0, 6, 0)), (.iload_n 3, 1, (3, 0, 0, 0, 0)), (.iadd, 1, (0, 0, 0, 0, 0))]
theorem o_MT_isAttacked_139 : jokL "ChessHouseModel$Texts" lw_tbl jcl jtb 10 false prog_18_method_8_code 139 k_MT_isAttacked_139 = true := jok_sub oo_MT_isAttacked_0 77 3 rfl rfl
def k_MT_isAttacked_146 : List jI := [(.ifCond .eq 7, 3, (153, 0, 0, 0, 0))]
theorem o_MT_isAttacked_146 : jokL "ChessHouseModel$Texts" lw_tbl jcl jtb 10 false prog_18_method_8_code 146 k_MT_isAttacked_146 = true := jok_sub oo_MT_isAttacked_0 81 1 rfl rfl
def k_MT_isAttacked_149 : List jI := [(.iconst 1, 1, (0, 0, 0, 1, 0)), (.goto 4, 3, (154, 0, 0, 0, 0))]
theorem o_MT_isAttacked_149 : jokL "ChessHouseModel$Texts" lw_tbl jcl jtb 10 false prog_18_method_8_code 149 k_MT_isAttacked_149 = true := jok_sub oo_MT_isAttacked_0 82 2 rfl rfl
def k_MT_isAttacked_153 : List jI := [(.iconst 0, 1, (0, 0, 0, 0, 0))]
theorem o_MT_isAttacked_153 : jokL "ChessHouseModel$Texts" lw_tbl jcl jtb 10 false prog_18_method_8_code 153 k_MT_isAttacked_153 = true := jok_sub oo_MT_isAttacked_0 84 1 rfl rfl
def k_MT_isAttacked_154 : List jI := [(.istore 5, 2, (5, 0, 0, 0, 0)), (.iload 8, 2, (8, 0, 0, 0, 0)), (.iconst 1, 1, (0, 0, 0, 1, 0)), (.if_icmp .eq 9, 3, (168, 0, 0, 0, 0)), (.iload 8, 2, (8, 0, 0, 0, 0)), (.iconst 2, 1, (0, 0, 0, 2, 0)), (.if_icmp .ne 52, 3, (217, 0, 0, 0, 0))]
theorem o_MT_isAttacked_154 : jokL "ChessHouseModel$Texts" lw_tbl jcl jtb 10 false prog_18_method_8_code 154 k_MT_isAttacked_154 = true := jok_sub oo_MT_isAttacked_0 85 7 rfl rfl
def k_MT_isAttacked_168 : List jI := [(.aload_n 0, 1, (0, 0, 0, 0, 0)), (.iload_n 1, 1, (1, 0, 0, 0, 0)), (.iload 6, 2, (6, 0, 0, 0, 0)), (.iload 7, 2, (7, 0, 0, 0, 0))]
theorem o_MT_isAttacked_168 : jokL "ChessHouseModel$Texts" lw_tbl jcl jtb 10 false prog_18_method_8_code 168 k_MT_isAttacked_168 = true := jok_sub oo_MT_isAttacked_0 92 4 rfl rfl
def k_MT_isAttacked_177 : List jI := [(.istore 9, 2, (9, 0, 0, 0, 0)), (.iload 5, 2, (5, 0, 0, 0, 0)), (.ifCond .ne 29, 3, (210, 0, 0, 0, 0)), (.iload 9, 2, (9, 0, 0, 0, 0)), (.iconst 5, 1, (0, 0, 0, 5, 0)), (.iload_n 3, 1, (3, 0, 0, 0, 0)), (.iadd, 1, (0, 0, 0, 0, 0)), (.if_icmp .eq 21, 3, (210, 0, 0, 0, 0)), (.iload 9, 2, (9, 0, 0, 0, 0)), (.iload 8, 2, (8, 0, 0, 0, 0)), (.iconst 1, 1, (0, 0, 0, 1, 0)), (.if_icmp .ne 7, 3, (204, 0, 0, 0, 0)), (.iconst 4, 1, (0, 0, 0, 4, 0)), (.goto 4, 3, (205, 0, 0, 0, 0))]
theorem o_MT_isAttacked_177 : jokL "ChessHouseModel$Texts" lw_tbl jcl jtb 10 false prog_18_method_8_code 177 k_MT_isAttacked_177 = true := jok_sub oo_MT_isAttacked_0 97 14 rfl rfl
def k_MT_isAttacked_204 : List jI := [(.iconst 3, 1, (0, 0, 0, 3, 0))]
theorem o_MT_isAttacked_204 : jokL "ChessHouseModel$Texts" lw_tbl jcl jtb 10 false prog_18_method_8_code 204 k_MT_isAttacked_204 = true := jok_sub oo_MT_isAttacked_204 0 1 rfl rfl
def k_MT_isAttacked_205 : List jI := [(.iload_n 3, 1, (3, 0, 0, 0, 0)), (.iadd, 1, (0, 0, 0, 0, 0)), (.if_icmp .ne 7, 3, (214, 0, 0, 0, 0))]
theorem o_MT_isAttacked_205 : jokL "ChessHouseModel$Texts" lw_tbl jcl jtb 10 false prog_18_method_8_code 205 k_MT_isAttacked_205 = true := jok_sub oo_MT_isAttacked_204 1 3 rfl rfl
def k_MT_isAttacked_210 : List jI := [(.iconst 1, 1, (0, 0, 0, 1, 0)), (.goto 4, 3, (215, 0, 0, 0, 0))]
theorem o_MT_isAttacked_210 : jokL "ChessHouseModel$Texts" lw_tbl jcl jtb 10 false prog_18_method_8_code 210 k_MT_isAttacked_210 = true := jok_sub oo_MT_isAttacked_204 4 2 rfl rfl
def k_MT_isAttacked_214 : List jI := [(.iconst 0, 1, (0, 0, 0, 0, 0))]
theorem o_MT_isAttacked_214 : jokL "ChessHouseModel$Texts" lw_tbl jcl jtb 10 false prog_18_method_8_code 214 k_MT_isAttacked_214 = true := jok_sub oo_MT_isAttacked_204 6 1 rfl rfl
def k_MT_isAttacked_215 : List jI := [(.istore 5, 2, (5, 0, 0, 0, 0))]
theorem o_MT_isAttacked_215 : jokL "ChessHouseModel$Texts" lw_tbl jcl jtb 10 false prog_18_method_8_code 215 k_MT_isAttacked_215 = true := jok_sub oo_MT_isAttacked_204 7 1 rfl rfl
def k_MT_isAttacked_217 : List jI := [(.iinc 7 1, 3, (0, 0, 0, 1, 0)), (.goto (-149), 3, (71, 0, 0, 0, 0))]
theorem o_MT_isAttacked_217 : jokL "ChessHouseModel$Texts" lw_tbl jcl jtb 10 false prog_18_method_8_code 217 k_MT_isAttacked_217 = true := jok_sub oo_MT_isAttacked_204 8 2 rfl rfl
def k_MT_isAttacked_223 : List jI := [(.iinc 6 1, 3, (0, 0, 0, 1, 0)), (.goto (-165), 3, (61, 0, 0, 0, 0))]
theorem o_MT_isAttacked_223 : jokL "ChessHouseModel$Texts" lw_tbl jcl jtb 10 false prog_18_method_8_code 223 k_MT_isAttacked_223 = true := jok_sub oo_MT_isAttacked_204 10 2 rfl rfl
def k_MT_isAttacked_229 : List jI := [(.iload 5, 2, (5, 0, 0, 0, 0))]
theorem o_MT_isAttacked_229 : jokL "ChessHouseModel$Texts" lw_tbl jcl jtb 10 false prog_18_method_8_code 229 k_MT_isAttacked_229 = true := jok_sub oo_MT_isAttacked_204 12 1 rfl rfl
theorem d_MT_isAttacked_21 : decode prog_18_method_8_code 21 = .ok (.invokestatic 104, 3) := by decide +kernel
theorem q_MT_isAttacked_21 : jlm lw_tbl 1952 "ChessHouseModel$Texts" 104 ⟨"ChessHouseModel$Texts", "step", "(III)I"⟩ = true := by decide +kernel
theorem d_MT_isAttacked_27 : decode prog_18_method_8_code 27 = .ok (.invokevirtual 108, 3) := by decide +kernel
theorem q_MT_isAttacked_27 : jlm lw_tbl 1955 "ChessHouseModel$Texts" 108 ⟨"ChessHouseModel$Texts", "stands", "(II)Z"⟩ = true := by decide +kernel
theorem d_MT_isAttacked_38 : decode prog_18_method_8_code 38 = .ok (.invokestatic 104, 3) := by decide +kernel
theorem q_MT_isAttacked_38 : jlm lw_tbl 1952 "ChessHouseModel$Texts" 104 ⟨"ChessHouseModel$Texts", "step", "(III)I"⟩ = true := by decide +kernel
theorem d_MT_isAttacked_44 : decode prog_18_method_8_code 44 = .ok (.invokevirtual 108, 3) := by decide +kernel
theorem q_MT_isAttacked_44 : jlm lw_tbl 1955 "ChessHouseModel$Texts" 108 ⟨"ChessHouseModel$Texts", "stands", "(II)Z"⟩ = true := by decide +kernel
theorem d_MT_isAttacked_107 : decode prog_18_method_8_code 107 = .ok (.invokestatic 104, 3) := by decide +kernel
theorem q_MT_isAttacked_107 : jlm lw_tbl 1952 "ChessHouseModel$Texts" 104 ⟨"ChessHouseModel$Texts", "step", "(III)I"⟩ = true := by decide +kernel
theorem d_MT_isAttacked_113 : decode prog_18_method_8_code 113 = .ok (.invokevirtual 108, 3) := by decide +kernel
theorem q_MT_isAttacked_113 : jlm lw_tbl 1955 "ChessHouseModel$Texts" 108 ⟨"ChessHouseModel$Texts", "stands", "(II)Z"⟩ = true := by decide +kernel
theorem d_MT_isAttacked_136 : decode prog_18_method_8_code 136 = .ok (.invokestatic 104, 3) := by decide +kernel
theorem q_MT_isAttacked_136 : jlm lw_tbl 1952 "ChessHouseModel$Texts" 104 ⟨"ChessHouseModel$Texts", "step", "(III)I"⟩ = true := by decide +kernel
theorem d_MT_isAttacked_143 : decode prog_18_method_8_code 143 = .ok (.invokevirtual 108, 3) := by decide +kernel
theorem q_MT_isAttacked_143 : jlm lw_tbl 1955 "ChessHouseModel$Texts" 108 ⟨"ChessHouseModel$Texts", "stands", "(II)Z"⟩ = true := by decide +kernel
theorem d_MT_isAttacked_174 : decode prog_18_method_8_code 174 = .ok (.invokevirtual 112, 3) := by decide +kernel
theorem q_MT_isAttacked_174 : jlm lw_tbl 1986 "ChessHouseModel$Texts" 112 ⟨"ChessHouseModel$Texts", "met", "(III)I"⟩ = true := by decide +kernel
theorem d_MT_isAttacked_231 : decode prog_18_method_8_code 231 = .ok (.ireturn, 1) := by decide +kernel
def y_MT_kingOf : jY := (⟨"ChessHouseModel$Texts", "kingOf", "(I)I"⟩, prog_18_method_9_code, 4, (some .int))
theorem m_MT_kingOf : jmth lw_tbl y_MT_kingOf 1 := ⟨jTA_in (wi := 2005) (by decide +kernel) rfl, jTA_in (wi := 315) (by decide +kernel) rfl, by decide, by decide, by decide +kernel⟩
theorem i_MT_kingOf : Jvm.Cond.instanceMethod y_MT_kingOf.1 ∈ jTA lw_tbl := jTA_in (wi := 2004) (by decide +kernel) rfl
theorem e_MT_kingOf : Jvm.Cond.selects y_MT_kingOf.1.cls y_MT_kingOf.1 y_MT_kingOf.1 ∈ jTA lw_tbl := jTA_in (wi := 125) (by decide +kernel) rfl
def kk_MT_kingOf_0 : List jI := [(.iconst 0, 1, (0, 0, 0, 0, 0)), (.istore_n 2, 1, (2, 0, 0, 0, 0)), (.iconst 0, 1, (0, 0, 0, 0, 0)), (.istore_n 3, 1, (3, 0, 0, 0, 0)), (.iload_n 3, 1, (3, 0, 0, 0, 0)), (.bipush 64, 2, (0, 0, 0, 64, 0)), (.if_icmp .ge 31, 3, (38, 0, 0, 0, 0)), (.aload_n 0, 1, (0, 0, 0, 0, 0)), (.getfield 71, 3, (12, 24, 2055, 0, 0)), (.iload_n 3, 1, (3, 0, 0, 0, 0)), (.iaload, 1, (0, 0, 0, 0, 0)), (.bipush 6, 2, (0, 0, 0, 6, 0)), (.bipush 8, 2, (0, 0, 0, 8, 0)), (.iload_n 1, 1, (1, 0, 0, 0, 0)), (.imul, 1, (0, 0, 0, 0, 0)), (.iadd, 1, (0, 0, 0, 0, 0)), (.if_icmp .ne 7, 3, (30, 0, 0, 0, 0)), (.iload_n 3, 1, (3, 0, 0, 0, 0)), (.goto 4, 3, (31, 0, 0, 0, 0)), (.iload_n 2, 1, (2, 0, 0, 0, 0)), (.istore_n 2, 1, (2, 0, 0, 0, 0)), (.iinc 3 1, 3, (0, 0, 0, 1, 0)), (.goto (-31), 3, (4, 0, 0, 0, 0)), (.iload_n 2, 1, (2, 0, 0, 0, 0)), (.ireturn, 1, (0, 0, 0, 0, 0))]
theorem oo_MT_kingOf_0 : jokL "ChessHouseModel$Texts" lw_tbl jcl jtb 4 false prog_18_method_9_code 0 kk_MT_kingOf_0 = true := by decide +kernel
def k_MT_kingOf_0 : List jI := [(.iconst 0, 1, (0, 0, 0, 0, 0)), (.istore_n 2, 1, (2, 0, 0, 0, 0)), (.iconst 0, 1, (0, 0, 0, 0, 0)), (.istore_n 3, 1, (3, 0, 0, 0, 0))]
theorem o_MT_kingOf_0 : jokL "ChessHouseModel$Texts" lw_tbl jcl jtb 4 false prog_18_method_9_code 0 k_MT_kingOf_0 = true := jok_sub oo_MT_kingOf_0 0 4 rfl rfl
def k_MT_kingOf_4 : List jI := [(.iload_n 3, 1, (3, 0, 0, 0, 0)), (.bipush 64, 2, (0, 0, 0, 64, 0)), (.if_icmp .ge 31, 3, (38, 0, 0, 0, 0)), (.aload_n 0, 1, (0, 0, 0, 0, 0)), (.getfield 71, 3, (12, 24, 2055, 0, 0)), (.iload_n 3, 1, (3, 0, 0, 0, 0)), (.iaload, 1, (0, 0, 0, 0, 0)), (.bipush 6, 2, (0, 0, 0, 6, 0)), (.bipush 8, 2, (0, 0, 0, 8, 0)), (.iload_n 1, 1, (1, 0, 0, 0, 0)), (.imul, 1, (0, 0, 0, 0, 0)), (.iadd, 1, (0, 0, 0, 0, 0)), (.if_icmp .ne 7, 3, (30, 0, 0, 0, 0)), (.iload_n 3, 1, (3, 0, 0, 0, 0)), (.goto 4, 3, (31, 0, 0, 0, 0))]
theorem o_MT_kingOf_4 : jokL "ChessHouseModel$Texts" lw_tbl jcl jtb 4 false prog_18_method_9_code 4 k_MT_kingOf_4 = true := jok_sub oo_MT_kingOf_0 4 15 rfl rfl
def k_MT_kingOf_30 : List jI := [(.iload_n 2, 1, (2, 0, 0, 0, 0))]
theorem o_MT_kingOf_30 : jokL "ChessHouseModel$Texts" lw_tbl jcl jtb 4 false prog_18_method_9_code 30 k_MT_kingOf_30 = true := jok_sub oo_MT_kingOf_0 19 1 rfl rfl
def k_MT_kingOf_31 : List jI := [(.istore_n 2, 1, (2, 0, 0, 0, 0)), (.iinc 3 1, 3, (0, 0, 0, 1, 0)), (.goto (-31), 3, (4, 0, 0, 0, 0))]
theorem o_MT_kingOf_31 : jokL "ChessHouseModel$Texts" lw_tbl jcl jtb 4 false prog_18_method_9_code 31 k_MT_kingOf_31 = true := jok_sub oo_MT_kingOf_0 20 3 rfl rfl
def k_MT_kingOf_38 : List jI := [(.iload_n 2, 1, (2, 0, 0, 0, 0))]
theorem o_MT_kingOf_38 : jokL "ChessHouseModel$Texts" lw_tbl jcl jtb 4 false prog_18_method_9_code 38 k_MT_kingOf_38 = true := jok_sub oo_MT_kingOf_0 23 1 rfl rfl
theorem d_MT_kingOf_39 : decode prog_18_method_9_code 39 = .ok (.ireturn, 1) := by decide +kernel
def y_MT_isInCheck : jY := (⟨"ChessHouseModel$Texts", "isInCheck", "(I)Z"⟩, prog_18_method_10_code, 2, (some .boolean))
theorem m_MT_isInCheck : jmth lw_tbl y_MT_isInCheck 1 := ⟨jTA_in (wi := 2001) (by decide +kernel) rfl, jTA_in (wi := 315) (by decide +kernel) rfl, by decide, by decide, by decide +kernel⟩
theorem i_MT_isInCheck : Jvm.Cond.instanceMethod y_MT_isInCheck.1 ∈ jTA lw_tbl := jTA_in (wi := 2000) (by decide +kernel) rfl
theorem e_MT_isInCheck : Jvm.Cond.selects y_MT_isInCheck.1.cls y_MT_isInCheck.1 y_MT_isInCheck.1 ∈ jTA lw_tbl := jTA_in (wi := 124) (by decide +kernel) rfl
def kk_MT_isInCheck_0 : List jI := [(.aload_n 0, 1, (0, 0, 0, 0, 0)), (.aload_n 0, 1, (0, 0, 0, 0, 0)), (.iload_n 1, 1, (1, 0, 0, 0, 0)), (.invokevirtual 115, 3, (0, 0, 0, 0, 0)), (.iconst 1, 1, (0, 0, 0, 1, 0)), (.iload_n 1, 1, (1, 0, 0, 0, 0)), (.isub, 1, (0, 0, 0, 0, 0)), (.invokevirtual 119, 3, (0, 0, 0, 0, 0)), (.ireturn, 1, (0, 0, 0, 0, 0))]
theorem oo_MT_isInCheck_0 : jokL "ChessHouseModel$Texts" lw_tbl jcl jtb 2 false prog_18_method_10_code 0 kk_MT_isInCheck_0 = true := by decide +kernel
def k_MT_isInCheck_0 : List jI := [(.aload_n 0, 1, (0, 0, 0, 0, 0)), (.aload_n 0, 1, (0, 0, 0, 0, 0)), (.iload_n 1, 1, (1, 0, 0, 0, 0))]
theorem o_MT_isInCheck_0 : jokL "ChessHouseModel$Texts" lw_tbl jcl jtb 2 false prog_18_method_10_code 0 k_MT_isInCheck_0 = true := jok_sub oo_MT_isInCheck_0 0 3 rfl rfl
def k_MT_isInCheck_6 : List jI := [(.iconst 1, 1, (0, 0, 0, 1, 0)), (.iload_n 1, 1, (1, 0, 0, 0, 0)), (.isub, 1, (0, 0, 0, 0, 0))]
theorem o_MT_isInCheck_6 : jokL "ChessHouseModel$Texts" lw_tbl jcl jtb 2 false prog_18_method_10_code 6 k_MT_isInCheck_6 = true := jok_sub oo_MT_isInCheck_0 4 3 rfl rfl
theorem d_MT_isInCheck_3 : decode prog_18_method_10_code 3 = .ok (.invokevirtual 115, 3) := by decide +kernel
theorem q_MT_isInCheck_3 : jlm lw_tbl 2002 "ChessHouseModel$Texts" 115 ⟨"ChessHouseModel$Texts", "kingOf", "(I)I"⟩ = true := by decide +kernel
theorem d_MT_isInCheck_9 : decode prog_18_method_10_code 9 = .ok (.invokevirtual 119, 3) := by decide +kernel
theorem q_MT_isInCheck_9 : jlm lw_tbl 1982 "ChessHouseModel$Texts" 119 ⟨"ChessHouseModel$Texts", "isAttacked", "(II)Z"⟩ = true := by decide +kernel
theorem d_MT_isInCheck_12 : decode prog_18_method_10_code 12 = .ok (.ireturn, 1) := by decide +kernel
def y_MT_keep : jY := (⟨"ChessHouseModel$Texts", "keep", "()V"⟩, prog_18_method_11_code, 2, none)
theorem m_MT_keep : jmth lw_tbl y_MT_keep 0 := ⟨jTA_in (wi := 1997) (by decide +kernel) rfl, jTA_in (wi := 315) (by decide +kernel) rfl, by decide, by decide, by decide +kernel⟩
theorem i_MT_keep : Jvm.Cond.instanceMethod y_MT_keep.1 ∈ jTA lw_tbl := jTA_in (wi := 1996) (by decide +kernel) rfl
theorem e_MT_keep : Jvm.Cond.selects y_MT_keep.1.cls y_MT_keep.1 y_MT_keep.1 ∈ jTA lw_tbl := jTA_in (wi := 123) (by decide +kernel) rfl
def kk_MT_keep_0 : List jI := [(.iconst 0, 1, (0, 0, 0, 0, 0)), (.istore_n 1, 1, (1, 0, 0, 0, 0)), (.iload_n 1, 1, (1, 0, 0, 0, 0)), (.bipush 64, 2, (0, 0, 0, 64, 0)), (.if_icmp .ge 21, 3, (26, 0, 0, 0, 0)), (.aload_n 0, 1, (0, 0, 0, 0, 0)), (.getfield 74, 3, (12, 30, 2067, 0, 0)), (.iload_n 1, 1, (1, 0, 0, 0, 0)), (.aload_n 0, 1, (0, 0, 0, 0, 0)), (.getfield 71, 3, (12, 24, 2055, 0, 0)), (.iload_n 1, 1, (1, 0, 0, 0, 0)), (.iaload, 1, (0, 0, 0, 0, 0)), (.iastore, 1, (0, 0, 0, 0, 0)), (.iinc 1 1, 3, (0, 0, 0, 1, 0)), (.goto (-21), 3, (2, 0, 0, 0, 0)), (.aload_n 0, 1, (0, 0, 0, 0, 0)), (.getfield 77, 3, (12, 31, 2068, 0, 0)), (.iconst 0, 1, (0, 0, 0, 0, 0)), (.aload_n 0, 1, (0, 0, 0, 0, 0)), (.getfield 122, 3, (12, 25, 2057, 0, 0)), (.iastore, 1, (0, 0, 0, 0, 0)), (.aload_n 0, 1, (0, 0, 0, 0, 0)), (.getfield 77, 3, (12, 31, 2068, 0, 0)), (.iconst 1, 1, (0, 0, 0, 1, 0)), (.aload_n 0, 1, (0, 0, 0, 0, 0)), (.getfield 125, 3, (12, 26, 2059, 0, 0)), (.iastore, 1, (0, 0, 0, 0, 0)), (.aload_n 0, 1, (0, 0, 0, 0, 0)), (.getfield 77, 3, (12, 31, 2068, 0, 0)), (.iconst 2, 1, (0, 0, 0, 2, 0)), (.aload_n 0, 1, (0, 0, 0, 0, 0)), (.getfield 128, 3, (12, 27, 2061, 0, 0)), (.iastore, 1, (0, 0, 0, 0, 0)), (.aload_n 0, 1, (0, 0, 0, 0, 0)), (.getfield 77, 3, (12, 31, 2068, 0, 0)), (.iconst 3, 1, (0, 0, 0, 3, 0)), (.aload_n 0, 1, (0, 0, 0, 0, 0)), (.getfield 131, 3, (12, 28, 2063, 0, 0)), (.iastore, 1, (0, 0, 0, 0, 0)), (.aload_n 0, 1, (0, 0, 0, 0, 0)), (.getfield 77, 3, (12, 31, 2068, 0, 0)), (.iconst 4, 1, (0, 0, 0, 4, 0)), (.aload_n 0, 1, (0, 0, 0, 0, 0)), (.getfield 134, 3, (12, 29, 2065, 0, 0)), (.iastore, 1, (0, 0, 0, 0, 0)), (.return_, 1, (0, 0, 0, 0, 0))]
theorem oo_MT_keep_0 : jokL "ChessHouseModel$Texts" lw_tbl jcl jtb 2 false prog_18_method_11_code 0 kk_MT_keep_0 = true := by decide +kernel
def k_MT_keep_0 : List jI := [(.iconst 0, 1, (0, 0, 0, 0, 0)), (.istore_n 1, 1, (1, 0, 0, 0, 0))]
theorem o_MT_keep_0 : jokL "ChessHouseModel$Texts" lw_tbl jcl jtb 2 false prog_18_method_11_code 0 k_MT_keep_0 = true := jok_sub oo_MT_keep_0 0 2 rfl rfl
def k_MT_keep_2 : List jI := [(.iload_n 1, 1, (1, 0, 0, 0, 0)), (.bipush 64, 2, (0, 0, 0, 64, 0)), (.if_icmp .ge 21, 3, (26, 0, 0, 0, 0)), (.aload_n 0, 1, (0, 0, 0, 0, 0)), (.getfield 74, 3, (12, 30, 2067, 0, 0)), (.iload_n 1, 1, (1, 0, 0, 0, 0)), (.aload_n 0, 1, (0, 0, 0, 0, 0)), (.getfield 71, 3, (12, 24, 2055, 0, 0)), (.iload_n 1, 1, (1, 0, 0, 0, 0)), (.iaload, 1, (0, 0, 0, 0, 0)), (.iastore, 1, (0, 0, 0, 0, 0)), (.iinc 1 1, 3, (0, 0, 0, 1, 0)), (.goto (-21), 3, (2, 0, 0, 0, 0))]
theorem o_MT_keep_2 : jokL "ChessHouseModel$Texts" lw_tbl jcl jtb 2 false prog_18_method_11_code 2 k_MT_keep_2 = true := jok_sub oo_MT_keep_0 2 13 rfl rfl
def k_MT_keep_26 : List jI := [(.aload_n 0, 1, (0, 0, 0, 0, 0)), (.getfield 77, 3, (12, 31, 2068, 0, 0)), (.iconst 0, 1, (0, 0, 0, 0, 0)), (.aload_n 0, 1, (0, 0, 0, 0, 0)), (.getfield 122, 3, (12, 25, 2057, 0, 0)), (.iastore, 1, (0, 0, 0, 0, 0)), (.aload_n 0, 1, (0, 0, 0, 0, 0)), (.getfield 77, 3, (12, 31, 2068, 0, 0)), (.iconst 1, 1, (0, 0, 0, 1, 0)), (.aload_n 0, 1, (0, 0, 0, 0, 0)), (.getfield 125, 3, (12, 26, 2059, 0, 0)), (.iastore, 1, (0, 0, 0, 0, 0)), (.aload_n 0, 1, (0, 0, 0, 0, 0)), (.getfield 77, 3, (12, 31, 2068, 0, 0)), (.iconst 2, 1, (0, 0, 0, 2, 0)), (.aload_n 0, 1, (0, 0, 0, 0, 0)), (.getfield 128, 3, (12, 27, 2061, 0, 0)), (.iastore, 1, (0, 0, 0, 0, 0)), (.aload_n 0, 1, (0, 0, 0, 0, 0)), (.getfield 77, 3, (12, 31, 2068, 0, 0)), (.iconst 3, 1, (0, 0, 0, 3, 0)), (.aload_n 0, 1, (0, 0, 0, 0, 0)), (.getfield 131, 3, (12, 28, 2063, 0, 0)), (.iastore, 1, (0, 0, 0, 0, 0)), (.aload_n 0, 1, (0, 0, 0, 0, 0)), (.getfield 77, 3, (12, 31, 2068, 0, 0)), (.iconst 4, 1, (0, 0, 0, 4, 0)), (.aload_n 0, 1, (0, 0, 0, 0, 0)), (.getfield 134, 3, (12, 29, 2065, 0, 0)), (.iastore, 1, (0, 0, 0, 0, 0))]
theorem o_MT_keep_26 : jokL "ChessHouseModel$Texts" lw_tbl jcl jtb 2 false prog_18_method_11_code 26 k_MT_keep_26 = true := jok_sub oo_MT_keep_0 15 30 rfl rfl
theorem d_MT_keep_76 : decode prog_18_method_11_code 76 = .ok (.return_, 1) := by decide +kernel
def y_MT_bringBack : jY := (⟨"ChessHouseModel$Texts", "bringBack", "()V"⟩, prog_18_method_12_code, 2, none)
theorem m_MT_bringBack : jmth lw_tbl y_MT_bringBack 0 := ⟨jTA_in (wi := 2009) (by decide +kernel) rfl, jTA_in (wi := 315) (by decide +kernel) rfl, by decide, by decide, by decide +kernel⟩
theorem i_MT_bringBack : Jvm.Cond.instanceMethod y_MT_bringBack.1 ∈ jTA lw_tbl := jTA_in (wi := 2008) (by decide +kernel) rfl
theorem e_MT_bringBack : Jvm.Cond.selects y_MT_bringBack.1.cls y_MT_bringBack.1 y_MT_bringBack.1 ∈ jTA lw_tbl := jTA_in (wi := 126) (by decide +kernel) rfl
def kk_MT_bringBack_0 : List jI := [(.iconst 0, 1, (0, 0, 0, 0, 0)), (.istore_n 1, 1, (1, 0, 0, 0, 0)), (.iload_n 1, 1, (1, 0, 0, 0, 0)), (.bipush 64, 2, (0, 0, 0, 64, 0)), (.if_icmp .ge 21, 3, (26, 0, 0, 0, 0)), (.aload_n 0, 1, (0, 0, 0, 0, 0)), (.getfield 71, 3, (12, 24, 2055, 0, 0)), (.iload_n 1, 1, (1, 0, 0, 0, 0)), (.aload_n 0, 1, (0, 0, 0, 0, 0)), (.getfield 74, 3, (12, 30, 2067, 0, 0)), (.iload_n 1, 1, (1, 0, 0, 0, 0)), (.iaload, 1, (0, 0, 0, 0, 0)), (.iastore, 1, (0, 0, 0, 0, 0)), (.iinc 1 1, 3, (0, 0, 0, 1, 0)), (.goto (-21), 3, (2, 0, 0, 0, 0)), (.aload_n 0, 1, (0, 0, 0, 0, 0)), (.aload_n 0, 1, (0, 0, 0, 0, 0)), (.getfield 77, 3, (12, 31, 2068, 0, 0)), (.iconst 0, 1, (0, 0, 0, 0, 0)), (.iaload, 1, (0, 0, 0, 0, 0)), (.putfield 122, 3, (12, 25, 2057, 0, 0)), (.aload_n 0, 1, (0, 0, 0, 0, 0)), (.aload_n 0, 1, (0, 0, 0, 0, 0)), (.getfield 77, 3, (12, 31, 2068, 0, 0)), (.iconst 1, 1, (0, 0, 0, 1, 0)), (.iaload, 1, (0, 0, 0, 0, 0)), (.putfield 125, 3, (12, 26, 2059, 0, 0)), (.aload_n 0, 1, (0, 0, 0, 0, 0)), (.aload_n 0, 1, (0, 0, 0, 0, 0)), (.getfield 77, 3, (12, 31, 2068, 0, 0)), (.iconst 2, 1, (0, 0, 0, 2, 0)), (.iaload, 1, (0, 0, 0, 0, 0)), (.putfield 128, 3, (12, 27, 2061, 0, 0)), (.aload_n 0, 1, (0, 0, 0, 0, 0)), (.aload_n 0, 1, (0, 0, 0, 0, 0)), (.getfield 77, 3, (12, 31, 2068, 0, 0)), (.iconst 3, 1, (0, 0, 0, 3, 0)), (.iaload, 1, (0, 0, 0, 0, 0)), (.putfield 131, 3, (12, 28, 2063, 0, 0)), (.aload_n 0, 1, (0, 0, 0, 0, 0)), (.aload_n 0, 1, (0, 0, 0, 0, 0)), (.getfield 77, 3, (12, 31, 2068, 0, 0)), (.iconst 4, 1, (0, 0, 0, 4, 0)), (.iaload, 1, (0, 0, 0, 0, 0)), (.putfield 134, 3, (12, 29, 2065, 0, 0)), (.return_, 1, (0, 0, 0, 0, 0))]
theorem oo_MT_bringBack_0 : jokL "ChessHouseModel$Texts" lw_tbl jcl jtb 2 false prog_18_method_12_code 0 kk_MT_bringBack_0 = true := by decide +kernel
def k_MT_bringBack_0 : List jI := [(.iconst 0, 1, (0, 0, 0, 0, 0)), (.istore_n 1, 1, (1, 0, 0, 0, 0))]
theorem o_MT_bringBack_0 : jokL "ChessHouseModel$Texts" lw_tbl jcl jtb 2 false prog_18_method_12_code 0 k_MT_bringBack_0 = true := jok_sub oo_MT_bringBack_0 0 2 rfl rfl
def k_MT_bringBack_2 : List jI := [(.iload_n 1, 1, (1, 0, 0, 0, 0)), (.bipush 64, 2, (0, 0, 0, 64, 0)), (.if_icmp .ge 21, 3, (26, 0, 0, 0, 0)), (.aload_n 0, 1, (0, 0, 0, 0, 0)), (.getfield 71, 3, (12, 24, 2055, 0, 0)), (.iload_n 1, 1, (1, 0, 0, 0, 0)), (.aload_n 0, 1, (0, 0, 0, 0, 0)), (.getfield 74, 3, (12, 30, 2067, 0, 0)), (.iload_n 1, 1, (1, 0, 0, 0, 0)), (.iaload, 1, (0, 0, 0, 0, 0)), (.iastore, 1, (0, 0, 0, 0, 0)), (.iinc 1 1, 3, (0, 0, 0, 1, 0)), (.goto (-21), 3, (2, 0, 0, 0, 0))]
theorem o_MT_bringBack_2 : jokL "ChessHouseModel$Texts" lw_tbl jcl jtb 2 false prog_18_method_12_code 2 k_MT_bringBack_2 = true := jok_sub oo_MT_bringBack_0 2 13 rfl rfl
def k_MT_bringBack_26 : List jI := [(.aload_n 0, 1, (0, 0, 0, 0, 0)), (.aload_n 0, 1, (0, 0, 0, 0, 0)), (.getfield 77, 3, (12, 31, 2068, 0, 0)), (.iconst 0, 1, (0, 0, 0, 0, 0)), (.iaload, 1, (0, 0, 0, 0, 0)), (.putfield 122, 3, (12, 25, 2057, 0, 0)), (.aload_n 0, 1, (0, 0, 0, 0, 0)), (.aload_n 0, 1, (0, 0, 0, 0, 0)), (.getfield 77, 3, (12, 31, 2068, 0, 0)), (.iconst 1, 1, (0, 0, 0, 1, 0)), (.iaload, 1, (0, 0, 0, 0, 0)), (.putfield 125, 3, (12, 26, 2059, 0, 0)), (.aload_n 0, 1, (0, 0, 0, 0, 0)), (.aload_n 0, 1, (0, 0, 0, 0, 0)), (.getfield 77, 3, (12, 31, 2068, 0, 0)), (.iconst 2, 1, (0, 0, 0, 2, 0)), (.iaload, 1, (0, 0, 0, 0, 0)), (.putfield 128, 3, (12, 27, 2061, 0, 0)), (.aload_n 0, 1, (0, 0, 0, 0, 0)), (.aload_n 0, 1, (0, 0, 0, 0, 0)), (.getfield 77, 3, (12, 31, 2068, 0, 0)), (.iconst 3, 1, (0, 0, 0, 3, 0)), (.iaload, 1, (0, 0, 0, 0, 0)), (.putfield 131, 3, (12, 28, 2063, 0, 0)), (.aload_n 0, 1, (0, 0, 0, 0, 0)), (.aload_n 0, 1, (0, 0, 0, 0, 0)), (.getfield 77, 3, (12, 31, 2068, 0, 0)), (.iconst 4, 1, (0, 0, 0, 4, 0)), (.iaload, 1, (0, 0, 0, 0, 0)), (.putfield 134, 3, (12, 29, 2065, 0, 0))]
theorem o_MT_bringBack_26 : jokL "ChessHouseModel$Texts" lw_tbl jcl jtb 2 false prog_18_method_12_code 26 k_MT_bringBack_26 = true := jok_sub oo_MT_bringBack_0 15 30 rfl rfl
theorem d_MT_bringBack_76 : decode prog_18_method_12_code 76 = .ok (.return_, 1) := by decide +kernel
def y_MT_lose : jY := (⟨"ChessHouseModel$Texts", "lose", "(I)V"⟩, prog_18_method_13_code, 3, none)
theorem m_MT_lose : jmth lw_tbl y_MT_lose 1 := ⟨jTA_in (wi := 1951) (by decide +kernel) rfl, jTA_in (wi := 315) (by decide +kernel) rfl, by decide, by decide, by decide +kernel⟩
theorem i_MT_lose : Jvm.Cond.instanceMethod y_MT_lose.1 ∈ jTA lw_tbl := jTA_in (wi := 1950) (by decide +kernel) rfl
theorem e_MT_lose : Jvm.Cond.selects y_MT_lose.1.cls y_MT_lose.1 y_MT_lose.1 ∈ jTA lw_tbl := jTA_in (wi := 113) (by decide +kernel) rfl
def kk_MT_lose_0 : List jI := [(.iload_n 1, 1, (1, 0, 0, 0, 0)), (.iconst 4, 1, (0, 0, 0, 4, 0)), (.if_icmp .ne 7, 3, (9, 0, 0, 0, 0)), (.iconst 3, 1, (0, 0, 0, 3, 0)), (.goto 54, 3, (60, 0, 0, 0, 0)), (.iload_n 1, 1, (1, 0, 0, 0, 0)), (.bipush 7, 2, (0, 0, 0, 7, 0)), (.if_icmp .ne 7, 3, (19, 0, 0, 0, 0)), (.iconst 1, 1, (0, 0, 0, 1, 0)), (.goto 44, 3, (60, 0, 0, 0, 0)), (.iload_n 1, 1, (1, 0, 0, 0, 0)), (.ifCond .ne 7, 3, (27, 0, 0, 0, 0)), (.iconst 2, 1, (0, 0, 0, 2, 0)), (.goto 36, 3, (60, 0, 0, 0, 0)), (.iload_n 1, 1, (1, 0, 0, 0, 0)), (.bipush 60, 2, (0, 0, 0, 60, 0)), (.if_icmp .ne 8, 3, (38, 0, 0, 0, 0)), (.bipush 12, 2, (0, 0, 0, 12, 0)), (.goto 25, 3, (60, 0, 0, 0, 0)), (.iload_n 1, 1, (1, 0, 0, 0, 0)), (.bipush 63, 2, (0, 0, 0, 63, 0)), (.if_icmp .ne 7, 3, (48, 0, 0, 0, 0)), (.iconst 4, 1, (0, 0, 0, 4, 0)), (.goto 15, 3, (60, 0, 0, 0, 0)), (.iload_n 1, 1, (1, 0, 0, 0, 0)), (.bipush 56, 2, (0, 0, 0, 56, 0)), (.if_icmp .ne 8, 3, (59, 0, 0, 0, 0)), (.bipush 8, 2, (0, 0, 0, 8, 0)), (.goto 4, 3, (60, 0, 0, 0, 0)), (.iconst 0, 1, (0, 0, 0, 0, 0)), (.istore_n 2, 1, (2, 0, 0, 0, 0)), (.aload_n 0, 1, (0, 0, 0, 0, 0)), (.aload_n 0, 1, (0, 0, 0, 0, 0)), (.getfield 125, 3, (12, 26, 2059, 0, 0)), (.iload_n 2, 1, (2, 0, 0, 0, 0)), (.iconst (-1), 1, (0, 0, 0, (-1), 0)), (.ixor, 1, (0, 0, 0, 0, 0)), (.iand, 1, (0, 0, 0, 0, 0)), (.putfield 125, 3, (12, 26, 2059, 0, 0)), (.return_, 1, (0, 0, 0, 0, 0))]
theorem oo_MT_lose_0 : jokL "ChessHouseModel$Texts" lw_tbl jcl jtb 3 false prog_18_method_13_code 0 kk_MT_lose_0 = true := by decide +kernel
def k_MT_lose_0 : List jI := [(.iload_n 1, 1, (1, 0, 0, 0, 0)), (.iconst 4, 1, (0, 0, 0, 4, 0)), (.if_icmp .ne 7, 3, (9, 0, 0, 0, 0)), (.iconst 3, 1, (0, 0, 0, 3, 0)), (.goto 54, 3, (60, 0, 0, 0, 0))]
theorem o_MT_lose_0 : jokL "ChessHouseModel$Texts" lw_tbl jcl jtb 3 false prog_18_method_13_code 0 k_MT_lose_0 = true := jok_sub oo_MT_lose_0 0 5 rfl rfl
def k_MT_lose_9 : List jI := [(.iload_n 1, 1, (1, 0, 0, 0, 0)), (.bipush 7, 2, (0, 0, 0, 7, 0)), (.if_icmp .ne 7, 3, (19, 0, 0, 0, 0)), (.iconst 1, 1, (0, 0, 0, 1, 0)), (.goto 44, 3, (60, 0, 0, 0, 0))]
theorem o_MT_lose_9 : jokL "ChessHouseModel$Texts" lw_tbl jcl jtb 3 false prog_18_method_13_code 9 k_MT_lose_9 = true := jok_sub oo_MT_lose_0 5 5 rfl rfl
def k_MT_lose_19 : List jI := [(.iload_n 1, 1, (1, 0, 0, 0, 0)), (.ifCond .ne 7, 3, (27, 0, 0, 0, 0)), (.iconst 2, 1, (0, 0, 0, 2, 0)), (.goto 36, 3, (60, 0, 0, 0, 0))]
theorem o_MT_lose_19 : jokL "ChessHouseModel$Texts" lw_tbl jcl jtb 3 false prog_18_method_13_code 19 k_MT_lose_19 = true := jok_sub oo_MT_lose_0 10 4 rfl rfl
def k_MT_lose_27 : List jI := [(.iload_n 1, 1, (1, 0, 0, 0, 0)), (.bipush 60, 2, (0, 0, 0, 60, 0)), (.if_icmp .ne 8, 3, (38, 0, 0, 0, 0)), (.bipush 12, 2, (0, 0, 0, 12, 0)), (.goto 25, 3, (60, 0, 0, 0, 0))]
theorem o_MT_lose_27 : jokL "ChessHouseModel$Texts" lw_tbl jcl jtb 3 false prog_18_method_13_code 27 k_MT_lose_27 = true := jok_sub oo_MT_lose_0 14 5 rfl rfl
def k_MT_lose_38 : List jI := [(.iload_n 1, 1, (1, 0, 0, 0, 0)), (.bipush 63, 2, (0, 0, 0, 63, 0)), (.if_icmp .ne 7, 3, (48, 0, 0, 0, 0)), (.iconst 4, 1, (0, 0, 0, 4, 0)), (.goto 15, 3, (60, 0, 0, 0, 0))]
theorem o_MT_lose_38 : jokL "ChessHouseModel$Texts" lw_tbl jcl jtb 3 false prog_18_method_13_code 38 k_MT_lose_38 = true := jok_sub oo_MT_lose_0 19 5 rfl rfl
def k_MT_lose_48 : List jI := [(.iload_n 1, 1, (1, 0, 0, 0, 0)), (.bipush 56, 2, (0, 0, 0, 56, 0)), (.if_icmp .ne 8, 3, (59, 0, 0, 0, 0)), (.bipush 8, 2, (0, 0, 0, 8, 0)), (.goto 4, 3, (60, 0, 0, 0, 0))]
theorem o_MT_lose_48 : jokL "ChessHouseModel$Texts" lw_tbl jcl jtb 3 false prog_18_method_13_code 48 k_MT_lose_48 = true := jok_sub oo_MT_lose_0 24 5 rfl rfl
def k_MT_lose_59 : List jI := [(.iconst 0, 1, (0, 0, 0, 0, 0))]
theorem o_MT_lose_59 : jokL "ChessHouseModel$Texts" lw_tbl jcl jtb 3 false prog_18_method_13_code 59 k_MT_lose_59 = true := jok_sub oo_MT_lose_0 29 1 rfl rfl
def k_MT_lose_60 : List jI := [(.istore_n 2, 1, (2, 0, 0, 0, 0)), (.aload_n 0, 1, (0, 0, 0, 0, 0)), (.aload_n 0, 1, (0, 0, 0, 0, 0)), (.getfield 125, 3, (12, 26, 2059, 0, 0)), (.iload_n 2, 1, (2, 0, 0, 0, 0)), (.iconst (-1), 1, (0, 0, 0, (-1), 0)), (.ixor, 1, (0, 0, 0, 0, 0)), (.iand, 1, (0, 0, 0, 0, 0)), (.putfield 125, 3, (12, 26, 2059, 0, 0))]
theorem o_MT_lose_60 : jokL "ChessHouseModel$Texts" lw_tbl jcl jtb 3 false prog_18_method_13_code 60 k_MT_lose_60 = true := jok_sub oo_MT_lose_0 30 9 rfl rfl
theorem d_MT_lose_73 : decode prog_18_method_13_code 73 = .ok (.return_, 1) := by decide +kernel
def y_MT_isTaking : jY := (⟨"ChessHouseModel$Texts", "isTaking", "(I)Z"⟩, prog_18_method_14_code, 4, (some .boolean))
theorem m_MT_isTaking : jmth lw_tbl y_MT_isTaking 1 := ⟨jTA_in (wi := 1947) (by decide +kernel) rfl, jTA_in (wi := 315) (by decide +kernel) rfl, by decide, by decide, by decide +kernel⟩
theorem i_MT_isTaking : Jvm.Cond.instanceMethod y_MT_isTaking.1 ∈ jTA lw_tbl := jTA_in (wi := 1946) (by decide +kernel) rfl
theorem e_MT_isTaking : Jvm.Cond.selects y_MT_isTaking.1.cls y_MT_isTaking.1 y_MT_isTaking.1 ∈ jTA lw_tbl := jTA_in (wi := 112) (by decide +kernel) rfl
def kk_MT_isTaking_0 : List jI := [(.iload_n 1, 1, (1, 0, 0, 0, 0)), (.bipush 64, 2, (0, 0, 0, 64, 0)), (.irem, 1, (0, 0, 0, 0, 0)), (.istore_n 2, 1, (2, 0, 0, 0, 0)), (.iload_n 1, 1, (1, 0, 0, 0, 0)), (.bipush 64, 2, (0, 0, 0, 64, 0)), (.idiv, 1, (0, 0, 0, 0, 0)), (.bipush 64, 2, (0, 0, 0, 64, 0)), (.irem, 1, (0, 0, 0, 0, 0)), (.istore_n 3, 1, (3, 0, 0, 0, 0)), (.aload_n 0, 1, (0, 0, 0, 0, 0)), (.getfield 71, 3, (12, 24, 2055, 0, 0)), (.iload_n 3, 1, (3, 0, 0, 0, 0)), (.iaload, 1, (0, 0, 0, 0, 0)), (.ifCond .ne 27, 3, (46, 0, 0, 0, 0)), (.aload_n 0, 1, (0, 0, 0, 0, 0)), (.getfield 71, 3, (12, 24, 2055, 0, 0)), (.iload_n 2, 1, (2, 0, 0, 0, 0)), (.iaload, 1, (0, 0, 0, 0, 0)), (.invokestatic 137, 3, (0, 0, 0, 0, 0)), (.iconst 1, 1, (0, 0, 0, 1, 0)), (.if_icmp .ne 18, 3, (50, 0, 0, 0, 0)), (.iload_n 2, 1, (2, 0, 0, 0, 0)), (.bipush 8, 2, (0, 0, 0, 8, 0)), (.irem, 1, (0, 0, 0, 0, 0)), (.iload_n 3, 1, (3, 0, 0, 0, 0)), (.bipush 8, 2, (0, 0, 0, 8, 0)), (.irem, 1, (0, 0, 0, 0, 0)), (.if_icmp .eq 7, 3, (50, 0, 0, 0, 0)), (.iconst 1, 1, (0, 0, 0, 1, 0)), (.goto 4, 3, (51, 0, 0, 0, 0)), (.iconst 0, 1, (0, 0, 0, 0, 0)), (.ireturn, 1, (0, 0, 0, 0, 0))]
theorem oo_MT_isTaking_0 : jokL "ChessHouseModel$Texts" lw_tbl jcl jtb 4 false prog_18_method_14_code 0 kk_MT_isTaking_0 = true := by decide +kernel
def k_MT_isTaking_0 : List jI := [(.iload_n 1, 1, (1, 0, 0, 0, 0)), (.bipush 64, 2, (0, 0, 0, 64, 0)), (.irem, 1, (0, 0, 0, 0, 0)), (.istore_n 2, 1, (2, 0, 0, 0, 0)), (.iload_n 1, 1, (1, 0, 0, 0, 0)), (.bipush 64, 2, (0, 0, 0, 64, 0)), (.idiv, 1, (0, 0, 0, 0, 0)), (.bipush 64, 2, (0, 0, 0, 64, 0)), (.irem, 1, (0, 0, 0, 0, 0)), (.istore_n 3, 1, (3, 0, 0, 0, 0)), (.aload_n 0, 1, (0, 0, 0, 0, 0)), (.getfield 71, 3, (12, 24, 2055, 0, 0)), (.iload_n 3, 1, (3, 0, 0, 0, 0)), (.iaload, 1, (0, 0, 0, 0, 0)), (.ifCond .ne 27, 3, (46, 0, 0, 0, 0)), (.aload_n 0, 1, (0, 0, 0, 0, 0)), (.getfield 71, 3, (12, 24, 2055, 0, 0)), (.iload_n 2, 1, (2, 0, 0, 0, 0)), (.iaload, 1, (0, 0, 0, 0, 0))]
theorem o_MT_isTaking_0 : jokL "ChessHouseModel$Texts" lw_tbl jcl jtb 4 false prog_18_method_14_code 0 k_MT_isTaking_0 = true := jok_sub oo_MT_isTaking_0 0 19 rfl rfl
def k_MT_isTaking_31 : List jI := [(.iconst 1, 1, (0, 0, 0, 1, 0)), (.if_icmp .ne 18, 3, (50, 0, 0, 0, 0)), (.iload_n 2, 1, (2, 0, 0, 0, 0)), (.bipush 8, 2, (0, 0, 0, 8, 0)), (.irem, 1, (0, 0, 0, 0, 0)), (.iload_n 3, 1, (3, 0, 0, 0, 0)), (.bipush 8, 2, (0, 0, 0, 8, 0)), (.irem, 1, (0, 0, 0, 0, 0)), (.if_icmp .eq 7, 3, (50, 0, 0, 0, 0))]
theorem o_MT_isTaking_31 : jokL "ChessHouseModel$Texts" lw_tbl jcl jtb 4 false prog_18_method_14_code 31 k_MT_isTaking_31 = true := jok_sub oo_MT_isTaking_0 20 9 rfl rfl
def k_MT_isTaking_46 : List jI := [(.iconst 1, 1, (0, 0, 0, 1, 0)), (.goto 4, 3, (51, 0, 0, 0, 0))]
theorem o_MT_isTaking_46 : jokL "ChessHouseModel$Texts" lw_tbl jcl jtb 4 false prog_18_method_14_code 46 k_MT_isTaking_46 = true := jok_sub oo_MT_isTaking_0 29 2 rfl rfl
def k_MT_isTaking_50 : List jI := [(.iconst 0, 1, (0, 0, 0, 0, 0))]
theorem o_MT_isTaking_50 : jokL "ChessHouseModel$Texts" lw_tbl jcl jtb 4 false prog_18_method_14_code 50 k_MT_isTaking_50 = true := jok_sub oo_MT_isTaking_0 31 1 rfl rfl
theorem d_MT_isTaking_28 : decode prog_18_method_14_code 28 = .ok (.invokestatic 137, 3) := by decide +kernel
theorem q_MT_isTaking_28 : jlm lw_tbl 1941 "ChessHouseModel$Texts" 137 ⟨"ChessHouseModel$Texts", "kind", "(I)I"⟩ = true := by decide +kernel
theorem d_MT_isTaking_51 : decode prog_18_method_14_code 51 = .ok (.ireturn, 1) := by decide +kernel
def y_MT_make : jY := (⟨"ChessHouseModel$Texts", "make", "(I)V"⟩, prog_18_method_15_code, 8, none)
theorem m_MT_make : jmth lw_tbl y_MT_make 1 := ⟨jTA_in (wi := 1940) (by decide +kernel) rfl, jTA_in (wi := 315) (by decide +kernel) rfl, by decide, by decide, by decide +kernel⟩
theorem i_MT_make : Jvm.Cond.instanceMethod y_MT_make.1 ∈ jTA lw_tbl := jTA_in (wi := 1939) (by decide +kernel) rfl
theorem e_MT_make : Jvm.Cond.selects y_MT_make.1.cls y_MT_make.1 y_MT_make.1 ∈ jTA lw_tbl := jTA_in (wi := 111) (by decide +kernel) rfl
def kk_MT_make_0 : List jI := [(.iload_n 1, 1, (1, 0, 0, 0, 0)), (.bipush 64, 2, (0, 0, 0, 64, 0)), (.irem, 1, (0, 0, 0, 0, 0)), (.istore_n 2, 1, (2, 0, 0, 0, 0)), (.iload_n 1, 1, (1, 0, 0, 0, 0)), (.bipush 64, 2, (0, 0, 0, 64, 0)), (.idiv, 1, (0, 0, 0, 0, 0)), (.bipush 64, 2, (0, 0, 0, 64, 0)), (.irem, 1, (0, 0, 0, 0, 0)), (.istore_n 3, 1, (3, 0, 0, 0, 0)), (.iload_n 1, 1, (1, 0, 0, 0, 0)), (.sipush 4096, 3, (0, 0, 0, 4096, 0)), (.idiv, 1, (0, 0, 0, 0, 0)), (.istore 4, 2, (4, 0, 0, 0, 0)), (.aload_n 0, 1, (0, 0, 0, 0, 0)), (.getfield 71, 3, (12, 24, 2055, 0, 0)), (.iload_n 2, 1, (2, 0, 0, 0, 0)), (.iaload, 1, (0, 0, 0, 0, 0)), (.istore 5, 2, (5, 0, 0, 0, 0)), (.iload 5, 2, (5, 0, 0, 0, 0)), (.invokestatic 137, 3, (0, 0, 0, 0, 0)), (.iconst 1, 1, (0, 0, 0, 1, 0)), (.if_icmp .ne 7, 3, (41, 0, 0, 0, 0)), (.iconst 1, 1, (0, 0, 0, 1, 0)), (.goto 4, 3, (42, 0, 0, 0, 0)), (.iconst 0, 1, (0, 0, 0, 0, 0)), (.istore 6, 2, (6, 0, 0, 0, 0)), (.aload_n 0, 1, (0, 0, 0, 0, 0)), (.iload 6, 2, (6, 0, 0, 0, 0)), (.ifCond .ne 11, 3, (58, 0, 0, 0, 0)), (.aload_n 0, 1, (0, 0, 0, 0, 0)), (.iload_n 1, 1, (1, 0, 0, 0, 0)), (.invokevirtual 140, 3, (0, 0, 0, 0, 0)), (.ifCond .eq 7, 3, (62, 0, 0, 0, 0)), (.iconst 0, 1, (0, 0, 0, 0, 0)), (.goto 9, 3, (68, 0, 0, 0, 0)), (.aload_n 0, 1, (0, 0, 0, 0, 0)), (.getfield 131, 3, (12, 28, 2063, 0, 0)), (.iconst 1, 1, (0, 0, 0, 1, 0)), (.iadd, 1, (0, 0, 0, 0, 0)), (.putfield 131, 3, (12, 28, 2063, 0, 0)), (.iload 6, 2, (6, 0, 0, 0, 0)), (.ifCond .eq 41, 3, (114, 0, 0, 0, 0)), (.aload_n 0, 1, (0, 0, 0, 0, 0)), (.getfield 71, 3, (12, 24, 2055, 0, 0)), (.iload_n 3, 1, (3, 0, 0, 0, 0)), (.iaload, 1, (0, 0, 0, 0, 0)), (.ifCond .ne 32, 3, (114, 0, 0, 0, 0)), (.iload_n 2, 1, (2, 0, 0, 0, 0)), (.bipush 8, 2, (0, 0, 0, 8, 0)), (.irem, 1, (0, 0, 0, 0, 0)), (.iload_n 3, 1, (3, 0, 0, 0, 0)), (.bipush 8, 2, (0, 0, 0, 8, 0)), (.irem, 1, (0, 0, 0, 0, 0)), (.if_icmp .eq 21, 3, (114, 0, 0, 0, 0)), (.aload_n 0, 1, (0, 0, 0, 0, 0)), (.getfield 71, 3, (12, 24, 2055, 0, 0)), (.iload_n 2, 1, (2, 0, 0, 0, 0)), (.bipush 8, 2, (0, 0, 0, 8, 0)), (.idiv, 1, (0, 0, 0, 0, 0)), (.bipush 8, 2, (0, 0, 0, 8, 0)), (.imul, 1, (0, 0, 0, 0, 0)), (.iload_n 3, 1, (3, 0, 0, 0, 0)), (.bipush 8, 2, (0, 0, 0, 8, 0)), (.irem, 1, (0, 0, 0, 0, 0)), (.iadd, 1, (0, 0, 0, 0, 0)), (.iconst 0, 1, (0, 0, 0, 0, 0)), (.iastore, 1, (0, 0, 0, 0, 0)), (.iload 5, 2, (5, 0, 0, 0, 0)), (.invokestatic 137, 3, (0, 0, 0, 0, 0)), (.bipush 6, 2, (0, 0, 0, 6, 0)), (.if_icmp .ne 73, 3, (194, 0, 0, 0, 0)), (.iload_n 2, 1, (2, 0, 0, 0, 0)), (.bipush 8, 2, (0, 0, 0, 8, 0)), (.irem, 1, (0, 0, 0, 0, 0)), (.iconst 4, 1, (0, 0, 0, 4, 0)), (.if_icmp .ne 65, 3, (194, 0, 0, 0, 0)), (.iload_n 3, 1, (3, 0, 0, 0, 0)), (.bipush 8, 2, (0, 0, 0, 8, 0)), (.irem, 1, (0, 0, 0, 0, 0)), (.bipush 6, 2, (0, 0, 0, 6, 0)), (.if_icmp .eq 11, 3, (149, 0, 0, 0, 0)), (.iload_n 3, 1, (3, 0, 0, 0, 0)), (.bipush 8, 2, (0, 0, 0, 8, 0)), (.irem, 1, (0, 0, 0, 0, 0)), (.iconst 2, 1, (0, 0, 0, 2, 0)), (.if_icmp .ne 48, 3, (194, 0, 0, 0, 0)), (.iload_n 3, 1, (3, 0, 0, 0, 0)), (.bipush 8, 2, (0, 0, 0, 8, 0)), (.irem, 1, (0, 0, 0, 0, 0)), (.bipush 6, 2, (0, 0, 0, 6, 0)), (.if_icmp .ne 9, 3, (164, 0, 0, 0, 0)), (.iload_n 2, 1, (2, 0, 0, 0, 0)), (.iconst 3, 1, (0, 0, 0, 3, 0)), (.iadd, 1, (0, 0, 0, 0, 0)), (.goto 6, 3, (167, 0, 0, 0, 0)), (.iload_n 2, 1, (2, 0, 0, 0, 0)), (.iconst 4, 1, (0, 0, 0, 4, 0)), (.isub, 1, (0, 0, 0, 0, 0)), (.istore 7, 2, (7, 0, 0, 0, 0)), (.aload_n 0, 1, (0, 0, 0, 0, 0)), (.getfield 71, 3, (12, 24, 2055, 0, 0)), (.iload_n 2, 1, (2, 0, 0, 0, 0)), (.iload_n 3, 1, (3, 0, 0, 0, 0)), (.iadd, 1, (0, 0, 0, 0, 0)), (.iconst 2, 1, (0, 0, 0, 2, 0)), (.idiv, 1, (0, 0, 0, 0, 0)), (.aload_n 0, 1, (0, 0, 0, 0, 0)), (.getfield 71, 3, (12, 24, 2055, 0, 0)), (.iload 7, 2, (7, 0, 0, 0, 0)), (.iaload, 1, (0, 0, 0, 0, 0)), (.iastore, 1, (0, 0, 0, 0, 0)), (.aload_n 0, 1, (0, 0, 0, 0, 0)), (.getfield 71, 3, (12, 24, 2055, 0, 0)), (.iload 7, 2, (7, 0, 0, 0, 0)), (.iconst 0, 1, (0, 0, 0, 0, 0)), (.iastore, 1, (0, 0, 0, 0, 0)), (.aload_n 0, 1, (0, 0, 0, 0, 0)), (.getfield 71, 3, (12, 24, 2055, 0, 0)), (.iload_n 2, 1, (2, 0, 0, 0, 0)), (.iconst 0, 1, (0, 0, 0, 0, 0)), (.iastore, 1, (0, 0, 0, 0, 0)), (.aload_n 0, 1, (0, 0, 0, 0, 0)), (.getfield 71, 3, (12, 24, 2055, 0, 0)), (.iload_n 3, 1, (3, 0, 0, 0, 0)), (.iload 4, 2, (4, 0, 0, 0, 0)), (.ifCond .le 16, 3, (224, 0, 0, 0, 0)), (.iload 4, 2, (4, 0, 0, 0, 0)), (.bipush 8, 2, (0, 0, 0, 8, 0)), (.aload_n 0, 1, (0, 0, 0, 0, 0)), (.getfield 122, 3, (12, 25, 2057, 0, 0)), (.imul, 1, (0, 0, 0, 0, 0)), (.iadd, 1, (0, 0, 0, 0, 0)), (.goto 5, 3, (226, 0, 0, 0, 0))]
theorem oo_MT_make_0 : jokL "ChessHouseModel$Texts" lw_tbl jcl jtb 8 false prog_18_method_15_code 0 kk_MT_make_0 = true := by decide +kernel
def kk_MT_make_224 : List jI := [(.iload 5, 2, (5, 0, 0, 0, 0)), (.iastore, 1, (0, 0, 0, 0, 0)), (.aload_n 0, 1, (0, 0, 0, 0, 0)), (.iload_n 2, 1, (2, 0, 0, 0, 0)), (.invokevirtual 144, 3, (0, 0, 0, 0, 0)), (.aload_n 0, 1, (0, 0, 0, 0, 0)), (.iload_n 3, 1, (3, 0, 0, 0, 0)), (.invokevirtual 144, 3, (0, 0, 0, 0, 0)), (.aload_n 0, 1, (0, 0, 0, 0, 0)), (.iconst (-1), 1, (0, 0, 0, (-1), 0)), (.putfield 128, 3, (12, 27, 2061, 0, 0)), (.iload 6, 2, (6, 0, 0, 0, 0)), (.ifCond .eq 75, 3, (319, 0, 0, 0, 0)), (.iload_n 3, 1, (3, 0, 0, 0, 0)), (.iload_n 2, 1, (2, 0, 0, 0, 0)), (.bipush 16, 2, (0, 0, 0, 16, 0)), (.iadd, 1, (0, 0, 0, 0, 0)), (.if_icmp .eq 11, 3, (263, 0, 0, 0, 0)), (.iload_n 3, 1, (3, 0, 0, 0, 0)), (.iload_n 2, 1, (2, 0, 0, 0, 0)), (.bipush 16, 2, (0, 0, 0, 16, 0)), (.isub, 1, (0, 0, 0, 0, 0)), (.if_icmp .ne 59, 3, (319, 0, 0, 0, 0)), (.iconst 1, 1, (0, 0, 0, 1, 0)), (.bipush 8, 2, (0, 0, 0, 8, 0)), (.iconst 1, 1, (0, 0, 0, 1, 0)), (.aload_n 0, 1, (0, 0, 0, 0, 0)), (.getfield 122, 3, (12, 25, 2057, 0, 0)), (.isub, 1, (0, 0, 0, 0, 0)), (.imul, 1, (0, 0, 0, 0, 0)), (.iadd, 1, (0, 0, 0, 0, 0)), (.istore 7, 2, (7, 0, 0, 0, 0)), (.aload_n 0, 1, (0, 0, 0, 0, 0)), (.aload_n 0, 1, (0, 0, 0, 0, 0)), (.iload_n 3, 1, (3, 0, 0, 0, 0)), (.iconst (-1), 1, (0, 0, 0, (-1), 0)), (.iconst 0, 1, (0, 0, 0, 0, 0)), (.invokestatic 104, 3, (0, 0, 0, 0, 0)), (.iload 7, 2, (7, 0, 0, 0, 0)), (.invokevirtual 108, 3, (0, 0, 0, 0, 0)), (.ifCond .ne 18, 3, (307, 0, 0, 0, 0)), (.aload_n 0, 1, (0, 0, 0, 0, 0)), (.iload_n 3, 1, (3, 0, 0, 0, 0)), (.iconst 1, 1, (0, 0, 0, 1, 0)), (.iconst 0, 1, (0, 0, 0, 0, 0)), (.invokestatic 104, 3, (0, 0, 0, 0, 0)), (.iload 7, 2, (7, 0, 0, 0, 0)), (.invokevirtual 108, 3, (0, 0, 0, 0, 0)), (.ifCond .eq 11, 3, (315, 0, 0, 0, 0)), (.iload_n 2, 1, (2, 0, 0, 0, 0)), (.iload_n 3, 1, (3, 0, 0, 0, 0)), (.iadd, 1, (0, 0, 0, 0, 0)), (.iconst 2, 1, (0, 0, 0, 2, 0)), (.idiv, 1, (0, 0, 0, 0, 0)), (.goto 4, 3, (316, 0, 0, 0, 0)), (.iconst (-1), 1, (0, 0, 0, (-1), 0)), (.putfield 128, 3, (12, 27, 2061, 0, 0)), (.aload_n 0, 1, (0, 0, 0, 0, 0)), (.aload_n 0, 1, (0, 0, 0, 0, 0)), (.getfield 134, 3, (12, 29, 2065, 0, 0)), (.aload_n 0, 1, (0, 0, 0, 0, 0)), (.getfield 122, 3, (12, 25, 2057, 0, 0)), (.iadd, 1, (0, 0, 0, 0, 0)), (.putfield 134, 3, (12, 29, 2065, 0, 0)), (.aload_n 0, 1, (0, 0, 0, 0, 0)), (.iconst 1, 1, (0, 0, 0, 1, 0)), (.aload_n 0, 1, (0, 0, 0, 0, 0)), (.getfield 122, 3, (12, 25, 2057, 0, 0)), (.isub, 1, (0, 0, 0, 0, 0)), (.putfield 122, 3, (12, 25, 2057, 0, 0)), (.return_, 1, (0, 0, 0, 0, 0))]
theorem oo_MT_make_224 : jokL "ChessHouseModel$Texts" lw_tbl jcl jtb 8 false prog_18_method_15_code 224 kk_MT_make_224 = true := by decide +kernel
def k_MT_make_0 : List jI := [(.iload_n 1, 1, (1, 0, 0, 0, 0)), (.bipush 64, 2, (0, 0, 0, 64, 0)), (.irem, 1, (0, 0, 0, 0, 0)), (.istore_n 2, 1, (2, 0, 0, 0, 0)), (.iload_n 1, 1, (1, 0, 0, 0, 0)), (.bipush 64, 2, (0, 0, 0, 64, 0)), (.idiv, 1, (0, 0, 0, 0, 0)), (.bipush 64, 2, (0, 0, 0, 64, 0)), (.irem, 1, (0, 0, 0, 0, 0)), (.istore_n 3, 1, (3, 0, 0, 0, 0)), (.iload_n 1, 1, (1, 0, 0, 0, 0)), (.sipush 4096, 3, (0, 0, 0, 4096, 0)), (.idiv, 1, (0, 0, 0, 0, 0)), (.istore 4, 2, (4, 0, 0, 0, 0)), (.aload_n 0, 1, (0, 0, 0, 0, 0)), (.getfield 71, 3, (12, 24, 2055, 0, 0)), (.iload_n 2, 1, (2, 0, 0, 0, 0)), (.iaload, 1, (0, 0, 0, 0, 0)), (.istore 5, 2, (5, 0, 0, 0, 0)), (.iload 5, 2, (5, 0, 0, 0, 0))]
theorem o_MT_make_0 : jokL "ChessHouseModel$Texts" lw_tbl jcl jtb 8 false prog_18_method_15_code 0 k_MT_make_0 = true := jok_sub oo_MT_make_0 0 20 rfl rfl
def k_MT_make_33 : List jI := [(.iconst 1, 1, (0, 0, 0, 1, 0)), (.if_icmp .ne 7, 3, (41, 0, 0, 0, 0)), (.iconst 1, 1, (0, 0, 0, 1, 0)), (.goto 4, 3, (42, 0, 0, 0, 0))]
theorem o_MT_make_33 : jokL "ChessHouseModel$Texts" lw_tbl jcl jtb 8 false prog_18_method_15_code 33 k_MT_make_33 = true := jok_sub oo_MT_make_0 21 4 rfl rfl
def k_MT_make_41 : List jI := [(.iconst 0, 1, (0, 0, 0, 0, 0))]
theorem o_MT_make_41 : jokL "ChessHouseModel$Texts" lw_tbl jcl jtb 8 false prog_18_method_15_code 41 k_MT_make_41 = true := jok_sub oo_MT_make_0 25 1 rfl rfl
def k_MT_make_42 : List jI := [(.istore 6, 2, (6, 0, 0, 0, 0)), (.aload_n 0, 1, (0, 0, 0, 0, 0)), (.iload 6, 2, (6, 0, 0, 0, 0)), (.ifCond .ne 11, 3, (58, 0, 0, 0, 0)), (.aload_n 0, 1, (0, 0, 0, 0, 0)), (.iload_n 1, 1, (1, 0, 0, 0, 0))]
theorem o_MT_make_42 : jokL "ChessHouseModel$Texts" lw_tbl jcl jtb 8 false prog_18_method_15_code 42 k_MT_make_42 = true := jok_sub oo_MT_make_0 26 6 rfl rfl
def k_MT_make_55 : List jI := [(.ifCond .eq 7, 3, (62, 0, 0, 0, 0))]
theorem o_MT_make_55 : jokL "ChessHouseModel$Texts" lw_tbl jcl jtb 8 false prog_18_method_15_code 55 k_MT_make_55 = true := jok_sub oo_MT_make_0 33 1 rfl rfl
def k_MT_make_58 : List jI := [(.iconst 0, 1, (0, 0, 0, 0, 0)), (.goto 9, 3, (68, 0, 0, 0, 0))]
theorem o_MT_make_58 : jokL "ChessHouseModel$Texts" lw_tbl jcl jtb 8 false prog_18_method_15_code 58 k_MT_make_58 = true := jok_sub oo_MT_make_0 34 2 rfl rfl
def k_MT_make_62 : List jI := [(.aload_n 0, 1, (0, 0, 0, 0, 0)), (.getfield 131, 3, (12, 28, 2063, 0, 0)), (.iconst 1, 1, (0, 0, 0, 1, 0)), (.iadd, 1, (0, 0, 0, 0, 0))]
theorem o_MT_make_62 : jokL "ChessHouseModel$Texts" lw_tbl jcl jtb 8 false prog_18_method_15_code 62 k_MT_make_62 = true := jok_sub oo_MT_make_0 36 4 rfl rfl
def k_MT_make_68 : List jI := [(.putfield 131, 3, (12, 28, 2063, 0, 0)), (.iload 6, 2, (6, 0, 0, 0, 0)), (.ifCond .eq 41, 3, (114, 0, 0, 0, 0)), (.aload_n 0, 1, (0, 0, 0, 0, 0)), (.getfield 71, 3, (12, 24, 2055, 0, 0)), (.iload_n 3, 1, (3, 0, 0, 0, 0)), (.iaload, 1, (0, 0, 0, 0, 0)), (.ifCond .ne 32, 3, (114, 0, 0, 0, 0)), (.iload_n 2, 1, (2, 0, 0, 0, 0)), (.bipush 8, 2, (0, 0, 0, 8, 0)), (.irem, 1, (0, 0, 0, 0, 0)), (.iload_n 3, 1, (3, 0, 0, 0, 0)), (.bipush 8, 2, (0, 0, 0, 8, 0)), (.irem, 1, (0, 0, 0, 0, 0)), (.if_icmp .eq 21, 3, (114, 0, 0, 0, 0)), (.aload_n 0, 1, (0, 0, 0, 0, 0)), (.getfield 71, 3, (12, 24, 2055, 0, 0)), (.iload_n 2, 1, (2, 0, 0, 0, 0)), (.bipush 8, 2, (0, 0, 0, 8, 0)), (.idiv, 1, (0, 0, 0, 0, 0)), (.bipush 8, 2, (0, 0, 0, 8, 0)), (.imul, 1, (0, 0, 0, 0, 0)), (.iload_n 3, 1, (3, 0, 0, 0, 0)), (.bipush 8, 2, (0, 0, 0, 8, 0)), (.irem, 1, (0, 0, 0, 0, 0)), (.iadd, 1, (0, 0, 0, 0, 0)), (.iconst 0, 1, (0, 0, 0, 0, 0)), (.iastore, 1, (0, 0, 0, 0, 0))]
theorem o_MT_make_68 : jokL "ChessHouseModel$Texts" lw_tbl jcl jtb 8 false prog_18_method_15_code 68 k_MT_make_68 = true := jok_sub oo_MT_make_0 40 28 rfl rfl
def k_MT_make_114 : List jI := [(.iload 5, 2, (5, 0, 0, 0, 0))]
theorem o_MT_make_114 : jokL "ChessHouseModel$Texts" lw_tbl jcl jtb 8 false prog_18_method_15_code 114 k_MT_make_114 = true := jok_sub oo_MT_make_0 68 1 rfl rfl
def k_MT_make_119 : List jI := [(.bipush 6, 2, (0, 0, 0, 6, 0)), (.if_icmp .ne 73, 3, (194, 0, 0, 0, 0)), (.iload_n 2, 1, (2, 0, 0, 0, 0)), (.bipush 8, 2, (0, 0, 0, 8, 0)), (.irem, 1, (0, 0, 0, 0, 0)), (.iconst 4, 1, (0, 0, 0, 4, 0)), (.if_icmp .ne 65, 3, (194, 0, 0, 0, 0)), (.iload_n 3, 1, (3, 0, 0, 0, 0)), (.bipush 8, 2, (0, 0, 0, 8, 0)), (.irem, 1, (0, 0, 0, 0, 0)), (.bipush 6, 2, (0, 0, 0, 6, 0)), (.if_icmp .eq 11, 3, (149, 0, 0, 0, 0)), (.iload_n 3, 1, (3, 0, 0, 0, 0)), (.bipush 8, 2, (0, 0, 0, 8, 0)), (.irem, 1, (0, 0, 0, 0, 0)), (.iconst 2, 1, (0, 0, 0, 2, 0)), (.if_icmp .ne 48, 3, (194, 0, 0, 0, 0))]
theorem o_MT_make_119 : jokL "ChessHouseModel$Texts" lw_tbl jcl jtb 8 false prog_18_method_15_code 119 k_MT_make_119 = true := jok_sub oo_MT_make_0 70 17 rfl rfl
def k_MT_make_149 : List jI := [(.iload_n 3, 1, (3, 0, 0, 0, 0)), (.bipush 8, 2, (0, 0, 0, 8, 0)), (.irem, 1, (0, 0, 0, 0, 0)), (.bipush 6, 2, (0, 0, 0, 6, 0)), (.if_icmp .ne 9, 3, (164, 0, 0, 0, 0)), (.iload_n 2, 1, (2, 0, 0, 0, 0)), (.iconst 3, 1, (0, 0, 0, 3, 0)), (.iadd, 1, (0, 0, 0, 0, 0)), (.goto 6, 3, (167, 0, 0, 0, 0))]
theorem o_MT_make_149 : jokL "ChessHouseModel$Texts" lw_tbl jcl jtb 8 false prog_18_method_15_code 149 k_MT_make_149 = true := jok_sub oo_MT_make_0 87 9 rfl rfl
def k_MT_make_164 : List jI := [(.iload_n 2, 1, (2, 0, 0, 0, 0)), (.iconst 4, 1, (0, 0, 0, 4, 0)), (.isub, 1, (0, 0, 0, 0, 0))]
theorem o_MT_make_164 : jokL "ChessHouseModel$Texts" lw_tbl jcl jtb 8 false prog_18_method_15_code 164 k_MT_make_164 = true := jok_sub oo_MT_make_0 96 3 rfl rfl
def k_MT_make_167 : List jI := [(.istore 7, 2, (7, 0, 0, 0, 0)), (.aload_n 0, 1, (0, 0, 0, 0, 0)), (.getfield 71, 3, (12, 24, 2055, 0, 0)), (.iload_n 2, 1, (2, 0, 0, 0, 0)), (.iload_n 3, 1, (3, 0, 0, 0, 0)), (.iadd, 1, (0, 0, 0, 0, 0)), (.iconst 2, 1, (0, 0, 0, 2, 0)), (.idiv, 1, (0, 0, 0, 0, 0)), (.aload_n 0, 1, (0, 0, 0, 0, 0)), (.getfield 71, 3, (12, 24, 2055, 0, 0)), (.iload 7, 2, (7, 0, 0, 0, 0)), (.iaload, 1, (0, 0, 0, 0, 0)), (.iastore, 1, (0, 0, 0, 0, 0)), (.aload_n 0, 1, (0, 0, 0, 0, 0)), (.getfield 71, 3, (12, 24, 2055, 0, 0)), (.iload 7, 2, (7, 0, 0, 0, 0)), (.iconst 0, 1, (0, 0, 0, 0, 0)), (.iastore, 1, (0, 0, 0, 0, 0))]
theorem o_MT_make_167 : jokL "ChessHouseModel$Texts" lw_tbl jcl jtb 8 false prog_18_method_15_code 167 k_MT_make_167 = true := jok_sub oo_MT_make_0 99 18 rfl rfl
def k_MT_make_194 : List jI := [(.aload_n 0, 1, (0, 0, 0, 0, 0)), (.getfield 71, 3, (12, 24, 2055, 0, 0)), (.iload_n 2, 1, (2, 0, 0, 0, 0)), (.iconst 0, 1, (0, 0, 0, 0, 0)), (.iastore, 1, (0, 0, 0, 0, 0)), (.aload_n 0, 1, (0, 0, 0, 0, 0)), (.getfield 71, 3, (12, 24, 2055, 0, 0)), (.iload_n 3, 1, (3, 0, 0, 0, 0)), (.iload 4, 2, (4, 0, 0, 0, 0)), (.ifCond .le 16, 3, (224, 0, 0, 0, 0)), (.iload 4, 2, (4, 0, 0, 0, 0)), (.bipush 8, 2, (0, 0, 0, 8, 0)), (.aload_n 0, 1, (0, 0, 0, 0, 0)), (.getfield 122, 3, (12, 25, 2057, 0, 0)), (.imul, 1, (0, 0, 0, 0, 0)), (.iadd, 1, (0, 0, 0, 0, 0)), (.goto 5, 3, (226, 0, 0, 0, 0))]
theorem o_MT_make_194 : jokL "ChessHouseModel$Texts" lw_tbl jcl jtb 8 false prog_18_method_15_code 194 k_MT_make_194 = true := jok_sub oo_MT_make_0 117 17 rfl rfl
def k_MT_make_224 : List jI := [(.iload 5, 2, (5, 0, 0, 0, 0))]
theorem o_MT_make_224 : jokL "ChessHouseModel$Texts" lw_tbl jcl jtb 8 false prog_18_method_15_code 224 k_MT_make_224 = true := jok_sub oo_MT_make_224 0 1 rfl rfl
def k_MT_make_226 : List jI := [(.iastore, 1, (0, 0, 0, 0, 0)), (.aload_n 0, 1, (0, 0, 0, 0, 0)), (.iload_n 2, 1, (2, 0, 0, 0, 0))]
theorem o_MT_make_226 : jokL "ChessHouseModel$Texts" lw_tbl jcl jtb 8 false prog_18_method_15_code 226 k_MT_make_226 = true := jok_sub oo_MT_make_224 1 3 rfl rfl
def k_MT_make_232 : List jI := [(.aload_n 0, 1, (0, 0, 0, 0, 0)), (.iload_n 3, 1, (3, 0, 0, 0, 0))]
theorem o_MT_make_232 : jokL "ChessHouseModel$Texts" lw_tbl jcl jtb 8 false prog_18_method_15_code 232 k_MT_make_232 = true := jok_sub oo_MT_make_224 5 2 rfl rfl
def k_MT_make_237 : List jI := [(.aload_n 0, 1, (0, 0, 0, 0, 0)), (.iconst (-1), 1, (0, 0, 0, (-1), 0)), (.putfield 128, 3, (12, 27, 2061, 0, 0)), (.iload 6, 2, (6, 0, 0, 0, 0)), (.ifCond .eq 75, 3, (319, 0, 0, 0, 0)), (.iload_n 3, 1, (3, 0, 0, 0, 0)), (.iload_n 2, 1, (2, 0, 0, 0, 0)), (.bipush 16, 2, (0, 0, 0, 16, 0)), (.iadd, 1, (0, 0, 0, 0, 0)), (.if_icmp .eq 11, 3, (263, 0, 0, 0, 0)), (.iload_n 3, 1, (3, 0, 0, 0, 0)), (.iload_n 2, 1, (2, 0, 0, 0, 0)), (.bipush 16, 2, (0, 0, 0, 16, 0)), (.isub, 1, (0, 0, 0, 0, 0)), (.if_icmp .ne 59, 3, (319, 0, 0, 0, 0))]
theorem o_MT_make_237 : jokL "ChessHouseModel$Texts" lw_tbl jcl jtb 8 false prog_18_method_15_code 237 k_MT_make_237 = true := jok_sub oo_MT_make_224 8 15 rfl rfl
def k_MT_make_263 : List jI := [(.iconst 1, 1, (0, 0, 0, 1, 0)), (.bipush 8, 2, (0, 0, 0, 8, 0)), (.iconst 1, 1, (0, 0, 0, 1, 0)), (.aload_n 0, 1, (0, 0, 0, 0, 0)), (.getfield 122, 3, (12, 25, 2057, 0, 0)), (.isub, 1, (0, 0, 0, 0, 0)), (.imul, 1, (0, 0, 0, 0, 0)), (.iadd, 1, (0, 0, 0, 0, 0)), (.istore 7, 2, (7, 0, 0, 0, 0)), (.aload_n 0, 1, (0, 0, 0, 0, 0)), (.aload_n 0, 1, (0, 0, 0, 0, 0)), (.iload_n 3, 1, (3, 0, 0, 0, 0)), (.iconst (-1), 1, (0, 0, 0, (-1), 0)), (.iconst 0, 1, (0, 0, 0, 0, 0))]
theorem o_MT_make_263 : jokL "ChessHouseModel$Texts" lw_tbl jcl jtb 8 false prog_18_method_15_code 263 k_MT_make_263 = true := jok_sub oo_MT_make_224 23 14 rfl rfl
def k_MT_make_284 : List jI := [(.iload 7, 2, (7, 0, 0, 0, 0))]
theorem o_MT_make_284 : jokL "ChessHouseModel$Texts" lw_tbl jcl jtb 8 false prog_18_method_15_code 284 k_MT_make_284 = true := jok_sub oo_MT_make_224 38 1 rfl rfl
def k_MT_make_289 : List jI := [(.ifCond .ne 18, 3, (307, 0, 0, 0, 0)), (.aload_n 0, 1, (0, 0, 0, 0, 0)), (.iload_n 3, 1, (3, 0, 0, 0, 0)), (.iconst 1, 1, (0, 0, 0, 1, 0)), (.iconst 0, 1, (0, 0, 0, 0, 0))]
theorem o_MT_make_289 : jokL "ChessHouseModel$Texts" lw_tbl jcl jtb 8 false prog_18_method_15_code 289 k_MT_make_289 = true := jok_sub oo_MT_make_224 40 5 rfl rfl
def k_MT_make_299 : List jI := [(.iload 7, 2, (7, 0, 0, 0, 0))]
theorem o_MT_make_299 : jokL "ChessHouseModel$Texts" lw_tbl jcl jtb 8 false prog_18_method_15_code 299 k_MT_make_299 = true := jok_sub oo_MT_make_224 46 1 rfl rfl
def k_MT_make_304 : List jI := [(.ifCond .eq 11, 3, (315, 0, 0, 0, 0))]
theorem o_MT_make_304 : jokL "ChessHouseModel$Texts" lw_tbl jcl jtb 8 false prog_18_method_15_code 304 k_MT_make_304 = true := jok_sub oo_MT_make_224 48 1 rfl rfl
def k_MT_make_307 : List jI := [(.iload_n 2, 1, (2, 0, 0, 0, 0)), (.iload_n 3, 1, (3, 0, 0, 0, 0)), (.iadd, 1, (0, 0, 0, 0, 0)), (.iconst 2, 1, (0, 0, 0, 2, 0)), (.idiv, 1, (0, 0, 0, 0, 0)), (.goto 4, 3, (316, 0, 0, 0, 0))]
theorem o_MT_make_307 : jokL "ChessHouseModel$Texts" lw_tbl jcl jtb 8 false prog_18_method_15_code 307 k_MT_make_307 = true := jok_sub oo_MT_make_224 49 6 rfl rfl
def k_MT_make_315 : List jI := [(.iconst (-1), 1, (0, 0, 0, (-1), 0))]
theorem o_MT_make_315 : jokL "ChessHouseModel$Texts" lw_tbl jcl jtb 8 false prog_18_method_15_code 315 k_MT_make_315 = true := jok_sub oo_MT_make_224 55 1 rfl rfl
def k_MT_make_316 : List jI := [(.putfield 128, 3, (12, 27, 2061, 0, 0))]
theorem o_MT_make_316 : jokL "ChessHouseModel$Texts" lw_tbl jcl jtb 8 false prog_18_method_15_code 316 k_MT_make_316 = true := jok_sub oo_MT_make_224 56 1 rfl rfl
def k_MT_make_319 : List jI := [(.aload_n 0, 1, (0, 0, 0, 0, 0)), (.aload_n 0, 1, (0, 0, 0, 0, 0)), (.getfield 134, 3, (12, 29, 2065, 0, 0)), (.aload_n 0, 1, (0, 0, 0, 0, 0)), (.getfield 122, 3, (12, 25, 2057, 0, 0)), (.iadd, 1, (0, 0, 0, 0, 0)), (.putfield 134, 3, (12, 29, 2065, 0, 0)), (.aload_n 0, 1, (0, 0, 0, 0, 0)), (.iconst 1, 1, (0, 0, 0, 1, 0)), (.aload_n 0, 1, (0, 0, 0, 0, 0)), (.getfield 122, 3, (12, 25, 2057, 0, 0)), (.isub, 1, (0, 0, 0, 0, 0)), (.putfield 122, 3, (12, 25, 2057, 0, 0))]
theorem o_MT_make_319 : jokL "ChessHouseModel$Texts" lw_tbl jcl jtb 8 false prog_18_method_15_code 319 k_MT_make_319 = true := jok_sub oo_MT_make_224 57 13 rfl rfl
theorem d_MT_make_30 : decode prog_18_method_15_code 30 = .ok (.invokestatic 137, 3) := by decide +kernel
theorem q_MT_make_30 : jlm lw_tbl 1941 "ChessHouseModel$Texts" 137 ⟨"ChessHouseModel$Texts", "kind", "(I)I"⟩ = true := by decide +kernel
theorem d_MT_make_52 : decode prog_18_method_15_code 52 = .ok (.invokevirtual 140, 3) := by decide +kernel
theorem q_MT_make_52 : jlm lw_tbl 1944 "ChessHouseModel$Texts" 140 ⟨"ChessHouseModel$Texts", "isTaking", "(I)Z"⟩ = true := by decide +kernel
theorem d_MT_make_116 : decode prog_18_method_15_code 116 = .ok (.invokestatic 137, 3) := by decide +kernel
theorem q_MT_make_116 : jlm lw_tbl 1941 "ChessHouseModel$Texts" 137 ⟨"ChessHouseModel$Texts", "kind", "(I)I"⟩ = true := by decide +kernel
theorem d_MT_make_229 : decode prog_18_method_15_code 229 = .ok (.invokevirtual 144, 3) := by decide +kernel
theorem q_MT_make_229 : jlm lw_tbl 1948 "ChessHouseModel$Texts" 144 ⟨"ChessHouseModel$Texts", "lose", "(I)V"⟩ = true := by decide +kernel
theorem d_MT_make_234 : decode prog_18_method_15_code 234 = .ok (.invokevirtual 144, 3) := by decide +kernel
theorem q_MT_make_234 : jlm lw_tbl 1948 "ChessHouseModel$Texts" 144 ⟨"ChessHouseModel$Texts", "lose", "(I)V"⟩ = true := by decide +kernel
theorem d_MT_make_281 : decode prog_18_method_15_code 281 = .ok (.invokestatic 104, 3) := by decide +kernel
theorem q_MT_make_281 : jlm lw_tbl 1952 "ChessHouseModel$Texts" 104 ⟨"ChessHouseModel$Texts", "step", "(III)I"⟩ = true := by decide +kernel
theorem d_MT_make_286 : decode prog_18_method_15_code 286 = .ok (.invokevirtual 108, 3) := by decide +kernel
theorem q_MT_make_286 : jlm lw_tbl 1955 "ChessHouseModel$Texts" 108 ⟨"ChessHouseModel$Texts", "stands", "(II)Z"⟩ = true := by decide +kernel
theorem d_MT_make_296 : decode prog_18_method_15_code 296 = .ok (.invokestatic 104, 3) := by decide +kernel
theorem q_MT_make_296 : jlm lw_tbl 1952 "ChessHouseModel$Texts" 104 ⟨"ChessHouseModel$Texts", "step", "(III)I"⟩ = true := by decide +kernel
theorem d_MT_make_301 : decode prog_18_method_15_code 301 = .ok (.invokevirtual 108, 3) := by decide +kernel
theorem q_MT_make_301 : jlm lw_tbl 1955 "ChessHouseModel$Texts" 108 ⟨"ChessHouseModel$Texts", "stands", "(II)Z"⟩ = true := by decide +kernel
theorem d_MT_make_342 : decode prog_18_method_15_code 342 = .ok (.return_, 1) := by decide +kernel
def y_MT_isSafe : jY := (⟨"ChessHouseModel$Texts", "isSafe", "(I)Z"⟩, prog_18_method_16_code, 3, (some .boolean))
theorem m_MT_isSafe : jmth lw_tbl y_MT_isSafe 1 := ⟨jTA_in (wi := 1993) (by decide +kernel) rfl, jTA_in (wi := 315) (by decide +kernel) rfl, by decide, by decide, by decide +kernel⟩
theorem i_MT_isSafe : Jvm.Cond.instanceMethod y_MT_isSafe.1 ∈ jTA lw_tbl := jTA_in (wi := 1992) (by decide +kernel) rfl
theorem e_MT_isSafe : Jvm.Cond.selects y_MT_isSafe.1.cls y_MT_isSafe.1 y_MT_isSafe.1 ∈ jTA lw_tbl := jTA_in (wi := 122) (by decide +kernel) rfl
def kk_MT_isSafe_0 : List jI := [(.aload_n 0, 1, (0, 0, 0, 0, 0)), (.invokevirtual 147, 3, (0, 0, 0, 0, 0)), (.aload_n 0, 1, (0, 0, 0, 0, 0)), (.iload_n 1, 1, (1, 0, 0, 0, 0)), (.invokevirtual 150, 3, (0, 0, 0, 0, 0)), (.aload_n 0, 1, (0, 0, 0, 0, 0)), (.iconst 1, 1, (0, 0, 0, 1, 0)), (.aload_n 0, 1, (0, 0, 0, 0, 0)), (.getfield 122, 3, (12, 25, 2057, 0, 0)), (.isub, 1, (0, 0, 0, 0, 0)), (.invokevirtual 153, 3, (0, 0, 0, 0, 0)), (.ifCond .ne 7, 3, (26, 0, 0, 0, 0)), (.iconst 1, 1, (0, 0, 0, 1, 0)), (.goto 4, 3, (27, 0, 0, 0, 0)), (.iconst 0, 1, (0, 0, 0, 0, 0)), (.istore_n 2, 1, (2, 0, 0, 0, 0)), (.aload_n 0, 1, (0, 0, 0, 0, 0)), (.invokevirtual 156, 3, (0, 0, 0, 0, 0)), (.iload_n 2, 1, (2, 0, 0, 0, 0)), (.ireturn, 1, (0, 0, 0, 0, 0))]
theorem oo_MT_isSafe_0 : jokL "ChessHouseModel$Texts" lw_tbl jcl jtb 3 false prog_18_method_16_code 0 kk_MT_isSafe_0 = true := by decide +kernel
def k_MT_isSafe_0 : List jI := [(.aload_n 0, 1, (0, 0, 0, 0, 0))]
theorem o_MT_isSafe_0 : jokL "ChessHouseModel$Texts" lw_tbl jcl jtb 3 false prog_18_method_16_code 0 k_MT_isSafe_0 = true := jok_sub oo_MT_isSafe_0 0 1 rfl rfl
def k_MT_isSafe_4 : List jI := [(.aload_n 0, 1, (0, 0, 0, 0, 0)), (.iload_n 1, 1, (1, 0, 0, 0, 0))]
theorem o_MT_isSafe_4 : jokL "ChessHouseModel$Texts" lw_tbl jcl jtb 3 false prog_18_method_16_code 4 k_MT_isSafe_4 = true := jok_sub oo_MT_isSafe_0 2 2 rfl rfl
def k_MT_isSafe_9 : List jI := [(.aload_n 0, 1, (0, 0, 0, 0, 0)), (.iconst 1, 1, (0, 0, 0, 1, 0)), (.aload_n 0, 1, (0, 0, 0, 0, 0)), (.getfield 122, 3, (12, 25, 2057, 0, 0)), (.isub, 1, (0, 0, 0, 0, 0))]
theorem o_MT_isSafe_9 : jokL "ChessHouseModel$Texts" lw_tbl jcl jtb 3 false prog_18_method_16_code 9 k_MT_isSafe_9 = true := jok_sub oo_MT_isSafe_0 5 5 rfl rfl
def k_MT_isSafe_19 : List jI := [(.ifCond .ne 7, 3, (26, 0, 0, 0, 0)), (.iconst 1, 1, (0, 0, 0, 1, 0)), (.goto 4, 3, (27, 0, 0, 0, 0))]
theorem o_MT_isSafe_19 : jokL "ChessHouseModel$Texts" lw_tbl jcl jtb 3 false prog_18_method_16_code 19 k_MT_isSafe_19 = true := jok_sub oo_MT_isSafe_0 11 3 rfl rfl
def k_MT_isSafe_26 : List jI := [(.iconst 0, 1, (0, 0, 0, 0, 0))]
theorem o_MT_isSafe_26 : jokL "ChessHouseModel$Texts" lw_tbl jcl jtb 3 false prog_18_method_16_code 26 k_MT_isSafe_26 = true := jok_sub oo_MT_isSafe_0 14 1 rfl rfl
def k_MT_isSafe_27 : List jI := [(.istore_n 2, 1, (2, 0, 0, 0, 0)), (.aload_n 0, 1, (0, 0, 0, 0, 0))]
theorem o_MT_isSafe_27 : jokL "ChessHouseModel$Texts" lw_tbl jcl jtb 3 false prog_18_method_16_code 27 k_MT_isSafe_27 = true := jok_sub oo_MT_isSafe_0 15 2 rfl rfl
def k_MT_isSafe_32 : List jI := [(.iload_n 2, 1, (2, 0, 0, 0, 0))]
theorem o_MT_isSafe_32 : jokL "ChessHouseModel$Texts" lw_tbl jcl jtb 3 false prog_18_method_16_code 32 k_MT_isSafe_32 = true := jok_sub oo_MT_isSafe_0 18 1 rfl rfl
theorem d_MT_isSafe_1 : decode prog_18_method_16_code 1 = .ok (.invokevirtual 147, 3) := by decide +kernel
theorem q_MT_isSafe_1 : jlm lw_tbl 1994 "ChessHouseModel$Texts" 147 ⟨"ChessHouseModel$Texts", "keep", "()V"⟩ = true := by decide +kernel
theorem d_MT_isSafe_6 : decode prog_18_method_16_code 6 = .ok (.invokevirtual 150, 3) := by decide +kernel
theorem q_MT_isSafe_6 : jlm lw_tbl 1937 "ChessHouseModel$Texts" 150 ⟨"ChessHouseModel$Texts", "make", "(I)V"⟩ = true := by decide +kernel
theorem d_MT_isSafe_16 : decode prog_18_method_16_code 16 = .ok (.invokevirtual 153, 3) := by decide +kernel
theorem q_MT_isSafe_16 : jlm lw_tbl 1998 "ChessHouseModel$Texts" 153 ⟨"ChessHouseModel$Texts", "isInCheck", "(I)Z"⟩ = true := by decide +kernel
theorem d_MT_isSafe_29 : decode prog_18_method_16_code 29 = .ok (.invokevirtual 156, 3) := by decide +kernel
theorem q_MT_isSafe_29 : jlm lw_tbl 2006 "ChessHouseModel$Texts" 156 ⟨"ChessHouseModel$Texts", "bringBack", "()V"⟩ = true := by decide +kernel
theorem d_MT_isSafe_33 : decode prog_18_method_16_code 33 = .ok (.ireturn, 1) := by decide +kernel
def y_MT_isClear : jY := (⟨"ChessHouseModel$Texts", "isClear", "(II)Z"⟩, prog_18_method_17_code, 5, (some .boolean))
theorem m_MT_isClear : jmth lw_tbl y_MT_isClear 2 := ⟨jTA_in (wi := 1981) (by decide +kernel) rfl, jTA_in (wi := 315) (by decide +kernel) rfl, by decide, by decide, by decide +kernel⟩
theorem i_MT_isClear : Jvm.Cond.instanceMethod y_MT_isClear.1 ∈ jTA lw_tbl := jTA_in (wi := 1980) (by decide +kernel) rfl
theorem e_MT_isClear : Jvm.Cond.selects y_MT_isClear.1.cls y_MT_isClear.1 y_MT_isClear.1 ∈ jTA lw_tbl := jTA_in (wi := 119) (by decide +kernel) rfl
def kk_MT_isClear_0 : List jI := [(.iconst 1, 1, (0, 0, 0, 1, 0)), (.istore_n 3, 1, (3, 0, 0, 0, 0)), (.iload_n 1, 1, (1, 0, 0, 0, 0)), (.istore 4, 2, (4, 0, 0, 0, 0)), (.iload 4, 2, (4, 0, 0, 0, 0)), (.iload_n 2, 1, (2, 0, 0, 0, 0)), (.if_icmp .gt 29, 3, (37, 0, 0, 0, 0)), (.iload_n 3, 1, (3, 0, 0, 0, 0)), (.ifCond .eq 17, 3, (29, 0, 0, 0, 0)), (.aload_n 0, 1, (0, 0, 0, 0, 0)), (.getfield 71, 3, (12, 24, 2055, 0, 0)), (.iload 4, 2, (4, 0, 0, 0, 0)), (.iaload, 1, (0, 0, 0, 0, 0)), (.ifCond .ne 7, 3, (29, 0, 0, 0, 0)), (.iconst 1, 1, (0, 0, 0, 1, 0)), (.goto 4, 3, (30, 0, 0, 0, 0)), (.iconst 0, 1, (0, 0, 0, 0, 0)), (.istore_n 3, 1, (3, 0, 0, 0, 0)), (.iinc 4 1, 3, (0, 0, 0, 1, 0)), (.goto (-29), 3, (5, 0, 0, 0, 0)), (.iload_n 3, 1, (3, 0, 0, 0, 0)), (.ireturn, 1, (0, 0, 0, 0, 0))]
theorem oo_MT_isClear_0 : jokL "ChessHouseModel$Texts" lw_tbl jcl jtb 5 false prog_18_method_17_code 0 kk_MT_isClear_0 = true := by decide +kernel
def k_MT_isClear_0 : List jI := [(.iconst 1, 1, (0, 0, 0, 1, 0)), (.istore_n 3, 1, (3, 0, 0, 0, 0)), (.iload_n 1, 1, (1, 0, 0, 0, 0)), (.istore 4, 2, (4, 0, 0, 0, 0))]
theorem o_MT_isClear_0 : jokL "ChessHouseModel$Texts" lw_tbl jcl jtb 5 false prog_18_method_17_code 0 k_MT_isClear_0 = true := jok_sub oo_MT_isClear_0 0 4 rfl rfl
def k_MT_isClear_5 : List jI := [(.iload 4, 2, (4, 0, 0, 0, 0)), (.iload_n 2, 1, (2, 0, 0, 0, 0)), (.if_icmp .gt 29, 3, (37, 0, 0, 0, 0)), (.iload_n 3, 1, (3, 0, 0, 0, 0)), (.ifCond .eq 17, 3, (29, 0, 0, 0, 0)), (.aload_n 0, 1, (0, 0, 0, 0, 0)), (.getfield 71, 3, (12, 24, 2055, 0, 0)), (.iload 4, 2, (4, 0, 0, 0, 0)), (.iaload, 1, (0, 0, 0, 0, 0)), (.ifCond .ne 7, 3, (29, 0, 0, 0, 0)), (.iconst 1, 1, (0, 0, 0, 1, 0)), (.goto 4, 3, (30, 0, 0, 0, 0))]
theorem o_MT_isClear_5 : jokL "ChessHouseModel$Texts" lw_tbl jcl jtb 5 false prog_18_method_17_code 5 k_MT_isClear_5 = true := jok_sub oo_MT_isClear_0 4 12 rfl rfl
def k_MT_isClear_29 : List jI := [(.iconst 0, 1, (0, 0, 0, 0, 0))]
theorem o_MT_isClear_29 : jokL "ChessHouseModel$Texts" lw_tbl jcl jtb 5 false prog_18_method_17_code 29 k_MT_isClear_29 = true := jok_sub oo_MT_isClear_0 16 1 rfl rfl
def k_MT_isClear_30 : List jI := [(.istore_n 3, 1, (3, 0, 0, 0, 0)), (.iinc 4 1, 3, (0, 0, 0, 1, 0)), (.goto (-29), 3, (5, 0, 0, 0, 0))]
theorem o_MT_isClear_30 : jokL "ChessHouseModel$Texts" lw_tbl jcl jtb 5 false prog_18_method_17_code 30 k_MT_isClear_30 = true := jok_sub oo_MT_isClear_0 17 3 rfl rfl
def k_MT_isClear_37 : List jI := [(.iload_n 3, 1, (3, 0, 0, 0, 0))]
theorem o_MT_isClear_37 : jokL "ChessHouseModel$Texts" lw_tbl jcl jtb 5 false prog_18_method_17_code 37 k_MT_isClear_37 = true := jok_sub oo_MT_isClear_0 20 1 rfl rfl
theorem d_MT_isClear_38 : decode prog_18_method_17_code 38 = .ok (.ireturn, 1) := by decide +kernel
def y_MT_mayCastle : jY := (⟨"ChessHouseModel$Texts", "mayCastle", "(I)Z"⟩, prog_18_method_18_code, 6, (some .boolean))
theorem m_MT_mayCastle : jmth lw_tbl y_MT_mayCastle 1 := ⟨jTA_in (wi := 1977) (by decide +kernel) rfl, jTA_in (wi := 315) (by decide +kernel) rfl, by decide, by decide, by decide +kernel⟩
theorem i_MT_mayCastle : Jvm.Cond.instanceMethod y_MT_mayCastle.1 ∈ jTA lw_tbl := jTA_in (wi := 1976) (by decide +kernel) rfl
theorem e_MT_mayCastle : Jvm.Cond.selects y_MT_mayCastle.1.cls y_MT_mayCastle.1 y_MT_mayCastle.1 ∈ jTA lw_tbl := jTA_in (wi := 118) (by decide +kernel) rfl
def kk_MT_mayCastle_0 : List jI := [(.iconst 4, 1, (0, 0, 0, 4, 0)), (.bipush 56, 2, (0, 0, 0, 56, 0)), (.aload_n 0, 1, (0, 0, 0, 0, 0)), (.getfield 122, 3, (12, 25, 2057, 0, 0)), (.imul, 1, (0, 0, 0, 0, 0)), (.iadd, 1, (0, 0, 0, 0, 0)), (.istore_n 2, 1, (2, 0, 0, 0, 0)), (.iload_n 1, 1, (1, 0, 0, 0, 0)), (.iload_n 2, 1, (2, 0, 0, 0, 0)), (.if_icmp .le 7, 3, (19, 0, 0, 0, 0)), (.iconst 1, 1, (0, 0, 0, 1, 0)), (.goto 4, 3, (20, 0, 0, 0, 0)), (.iconst 0, 1, (0, 0, 0, 0, 0)), (.istore_n 3, 1, (3, 0, 0, 0, 0)), (.aload_n 0, 1, (0, 0, 0, 0, 0)), (.getfield 125, 3, (12, 26, 2059, 0, 0)), (.iconst 2, 1, (0, 0, 0, 2, 0)), (.aload_n 0, 1, (0, 0, 0, 0, 0)), (.getfield 122, 3, (12, 25, 2057, 0, 0)), (.imul, 1, (0, 0, 0, 0, 0)), (.iload_n 3, 1, (3, 0, 0, 0, 0)), (.ifCond .eq 7, 3, (39, 0, 0, 0, 0)), (.iconst 0, 1, (0, 0, 0, 0, 0)), (.goto 4, 3, (40, 0, 0, 0, 0)), (.iconst 1, 1, (0, 0, 0, 1, 0)), (.iadd, 1, (0, 0, 0, 0, 0)), (.ishr, 1, (0, 0, 0, 0, 0)), (.iconst 1, 1, (0, 0, 0, 1, 0)), (.iand, 1, (0, 0, 0, 0, 0)), (.iconst 1, 1, (0, 0, 0, 1, 0)), (.if_icmp .ne 7, 3, (52, 0, 0, 0, 0)), (.iconst 1, 1, (0, 0, 0, 1, 0)), (.goto 4, 3, (53, 0, 0, 0, 0)), (.iconst 0, 1, (0, 0, 0, 0, 0)), (.istore 4, 2, (4, 0, 0, 0, 0)), (.iload_n 3, 1, (3, 0, 0, 0, 0)), (.ifCond .eq 16, 3, (72, 0, 0, 0, 0)), (.aload_n 0, 1, (0, 0, 0, 0, 0)), (.iload_n 2, 1, (2, 0, 0, 0, 0)), (.iconst 1, 1, (0, 0, 0, 1, 0)), (.iadd, 1, (0, 0, 0, 0, 0)), (.iload_n 2, 1, (2, 0, 0, 0, 0)), (.iconst 2, 1, (0, 0, 0, 2, 0)), (.iadd, 1, (0, 0, 0, 0, 0)), (.invokevirtual 159, 3, (0, 0, 0, 0, 0)), (.goto 13, 3, (82, 0, 0, 0, 0)), (.aload_n 0, 1, (0, 0, 0, 0, 0)), (.iload_n 2, 1, (2, 0, 0, 0, 0)), (.iconst 3, 1, (0, 0, 0, 3, 0)), (.isub, 1, (0, 0, 0, 0, 0)), (.iload_n 2, 1, (2, 0, 0, 0, 0)), (.iconst 1, 1, (0, 0, 0, 1, 0)), (.isub, 1, (0, 0, 0, 0, 0)), (.invokevirtual 159, 3, (0, 0, 0, 0, 0)), (.istore 5, 2, (5, 0, 0, 0, 0)), (.iload 4, 2, (4, 0, 0, 0, 0)), (.ifCond .eq 44, 3, (130, 0, 0, 0, 0)), (.iload 5, 2, (5, 0, 0, 0, 0)), (.ifCond .eq 39, 3, (130, 0, 0, 0, 0)), (.aload_n 0, 1, (0, 0, 0, 0, 0)), (.iload_n 2, 1, (2, 0, 0, 0, 0)), (.iconst 1, 1, (0, 0, 0, 1, 0)), (.aload_n 0, 1, (0, 0, 0, 0, 0)), (.getfield 122, 3, (12, 25, 2057, 0, 0)), (.isub, 1, (0, 0, 0, 0, 0)), (.invokevirtual 119, 3, (0, 0, 0, 0, 0)), (.ifCond .ne 25, 3, (130, 0, 0, 0, 0)), (.aload_n 0, 1, (0, 0, 0, 0, 0)), (.iload_n 2, 1, (2, 0, 0, 0, 0)), (.iload_n 1, 1, (1, 0, 0, 0, 0)), (.iadd, 1, (0, 0, 0, 0, 0)), (.iconst 2, 1, (0, 0, 0, 2, 0)), (.idiv, 1, (0, 0, 0, 0, 0)), (.iconst 1, 1, (0, 0, 0, 1, 0)), (.aload_n 0, 1, (0, 0, 0, 0, 0)), (.getfield 122, 3, (12, 25, 2057, 0, 0)), (.isub, 1, (0, 0, 0, 0, 0)), (.invokevirtual 119, 3, (0, 0, 0, 0, 0)), (.ifCond .ne 7, 3, (130, 0, 0, 0, 0)), (.iconst 1, 1, (0, 0, 0, 1, 0)), (.goto 4, 3, (131, 0, 0, 0, 0)), (.iconst 0, 1, (0, 0, 0, 0, 0)), (.ireturn, 1, (0, 0, 0, 0, 0))]
theorem oo_MT_mayCastle_0 : jokL "ChessHouseModel$Texts" lw_tbl jcl jtb 6 false prog_18_method_18_code 0 kk_MT_mayCastle_0 = true := by decide +kernel
def k_MT_mayCastle_0 : List jI := [(.iconst 4, 1, (0, 0, 0, 4, 0)), (.bipush 56, 2, (0, 0, 0, 56, 0)), (.aload_n 0, 1, (0, 0, 0, 0, 0)), (.getfield 122, 3, (12, 25, 2057, 0, 0)), (.imul, 1, (0, 0, 0, 0, 0)), (.iadd, 1, (0, 0, 0, 0, 0)), (.istore_n 2, 1, (2, 0, 0, 0, 0)), (.iload_n 1, 1, (1, 0, 0, 0, 0)), (.iload_n 2, 1, (2, 0, 0, 0, 0)), (.if_icmp .le 7, 3, (19, 0, 0, 0, 0)), (.iconst 1, 1, (0, 0, 0, 1, 0)), (.goto 4, 3, (20, 0, 0, 0, 0))]
theorem o_MT_mayCastle_0 : jokL "ChessHouseModel$Texts" lw_tbl jcl jtb 6 false prog_18_method_18_code 0 k_MT_mayCastle_0 = true := jok_sub oo_MT_mayCastle_0 0 12 rfl rfl
def k_MT_mayCastle_19 : List jI := [(.iconst 0, 1, (0, 0, 0, 0, 0))]
theorem o_MT_mayCastle_19 : jokL "ChessHouseModel$Texts" lw_tbl jcl jtb 6 false prog_18_method_18_code 19 k_MT_mayCastle_19 = true := jok_sub oo_MT_mayCastle_0 12 1 rfl rfl
def k_MT_mayCastle_20 : List jI := [(.istore_n 3, 1, (3, 0, 0, 0, 0)), (.aload_n 0, 1, (0, 0, 0, 0, 0)), (.getfield 125, 3, (12, 26, 2059, 0, 0)), (.iconst 2, 1, (0, 0, 0, 2, 0)), (.aload_n 0, 1, (0, 0, 0, 0, 0)), (.getfield 122, 3, (12, 25, 2057, 0, 0)), (.imul, 1, (0, 0, 0, 0, 0)), (.iload_n 3, 1, (3, 0, 0, 0, 0)), (.ifCond .eq 7, 3, (39, 0, 0, 0, 0)), (.iconst 0, 1, (0, 0, 0, 0, 0)), (.goto 4, 3, (40, 0, 0, 0, 0))]
theorem o_MT_mayCastle_20 : jokL "ChessHouseModel$Texts" lw_tbl jcl jtb 6 false prog_18_method_18_code 20 k_MT_mayCastle_20 = true := jok_sub oo_MT_mayCastle_0 13 11 rfl rfl
def k_MT_mayCastle_39 : List jI := [(.iconst 1, 1, (0, 0, 0, 1, 0))]
theorem o_MT_mayCastle_39 : jokL "ChessHouseModel$Texts" lw_tbl jcl jtb 6 false prog_18_method_18_code 39 k_MT_mayCastle_39 = true := jok_sub oo_MT_mayCastle_0 24 1 rfl rfl
def k_MT_mayCastle_40 : List jI := [(.iadd, 1, (0, 0, 0, 0, 0)), (.ishr, 1, (0, 0, 0, 0, 0)), (.iconst 1, 1, (0, 0, 0, 1, 0)), (.iand, 1, (0, 0, 0, 0, 0)), (.iconst 1, 1, (0, 0, 0, 1, 0)), (.if_icmp .ne 7, 3, (52, 0, 0, 0, 0)), (.iconst 1, 1, (0, 0, 0, 1, 0)), (.goto 4, 3, (53, 0, 0, 0, 0))]
theorem o_MT_mayCastle_40 : jokL "ChessHouseModel$Texts" lw_tbl jcl jtb 6 false prog_18_method_18_code 40 k_MT_mayCastle_40 = true := jok_sub oo_MT_mayCastle_0 25 8 rfl rfl
def k_MT_mayCastle_52 : List jI := [(.iconst 0, 1, (0, 0, 0, 0, 0))]
theorem o_MT_mayCastle_52 : jokL "ChessHouseModel$Texts" lw_tbl jcl jtb 6 false prog_18_method_18_code 52 k_MT_mayCastle_52 = true := jok_sub oo_MT_mayCastle_0 33 1 rfl rfl
def k_MT_mayCastle_53 : List jI := [(.istore 4, 2, (4, 0, 0, 0, 0)), (.iload_n 3, 1, (3, 0, 0, 0, 0)), (.ifCond .eq 16, 3, (72, 0, 0, 0, 0)), (.aload_n 0, 1, (0, 0, 0, 0, 0)), (.iload_n 2, 1, (2, 0, 0, 0, 0)), (.iconst 1, 1, (0, 0, 0, 1, 0)), (.iadd, 1, (0, 0, 0, 0, 0)), (.iload_n 2, 1, (2, 0, 0, 0, 0)), (.iconst 2, 1, (0, 0, 0, 2, 0)), (.iadd, 1, (0, 0, 0, 0, 0))]
theorem o_MT_mayCastle_53 : jokL "ChessHouseModel$Texts" lw_tbl jcl jtb 6 false prog_18_method_18_code 53 k_MT_mayCastle_53 = true := jok_sub oo_MT_mayCastle_0 34 10 rfl rfl
def k_MT_mayCastle_69 : List jI := [(.goto 13, 3, (82, 0, 0, 0, 0))]
theorem o_MT_mayCastle_69 : jokL "ChessHouseModel$Texts" lw_tbl jcl jtb 6 false prog_18_method_18_code 69 k_MT_mayCastle_69 = true := jok_sub oo_MT_mayCastle_0 45 1 rfl rfl
def k_MT_mayCastle_72 : List jI := [(.aload_n 0, 1, (0, 0, 0, 0, 0)), (.iload_n 2, 1, (2, 0, 0, 0, 0)), (.iconst 3, 1, (0, 0, 0, 3, 0)), (.isub, 1, (0, 0, 0, 0, 0)), (.iload_n 2, 1, (2, 0, 0, 0, 0)), (.iconst 1, 1, (0, 0, 0, 1, 0)), (.isub, 1, (0, 0, 0, 0, 0))]
theorem o_MT_mayCastle_72 : jokL "ChessHouseModel$Texts" lw_tbl jcl jtb 6 false prog_18_method_18_code 72 k_MT_mayCastle_72 = true := jok_sub oo_MT_mayCastle_0 46 7 rfl rfl
def k_MT_mayCastle_82 : List jI := [(.istore 5, 2, (5, 0, 0, 0, 0)), (.iload 4, 2, (4, 0, 0, 0, 0)), (.ifCond .eq 44, 3, (130, 0, 0, 0, 0)), (.iload 5, 2, (5, 0, 0, 0, 0)), (.ifCond .eq 39, 3, (130, 0, 0, 0, 0)), (.aload_n 0, 1, (0, 0, 0, 0, 0)), (.iload_n 2, 1, (2, 0, 0, 0, 0)), (.iconst 1, 1, (0, 0, 0, 1, 0)), (.aload_n 0, 1, (0, 0, 0, 0, 0)), (.getfield 122, 3, (12, 25, 2057, 0, 0)), (.isub, 1, (0, 0, 0, 0, 0))]
theorem o_MT_mayCastle_82 : jokL "ChessHouseModel$Texts" lw_tbl jcl jtb 6 false prog_18_method_18_code 82 k_MT_mayCastle_82 = true := jok_sub oo_MT_mayCastle_0 54 11 rfl rfl
def k_MT_mayCastle_105 : List jI := [(.ifCond .ne 25, 3, (130, 0, 0, 0, 0)), (.aload_n 0, 1, (0, 0, 0, 0, 0)), (.iload_n 2, 1, (2, 0, 0, 0, 0)), (.iload_n 1, 1, (1, 0, 0, 0, 0)), (.iadd, 1, (0, 0, 0, 0, 0)), (.iconst 2, 1, (0, 0, 0, 2, 0)), (.idiv, 1, (0, 0, 0, 0, 0)), (.iconst 1, 1, (0, 0, 0, 1, 0)), (.aload_n 0, 1, (0, 0, 0, 0, 0)), (.getfield 122, 3, (12, 25, 2057, 0, 0)), (.isub, 1, (0, 0, 0, 0, 0))]
theorem o_MT_mayCastle_105 : jokL "ChessHouseModel$Texts" lw_tbl jcl jtb 6 false prog_18_method_18_code 105 k_MT_mayCastle_105 = true := jok_sub oo_MT_mayCastle_0 66 11 rfl rfl
def k_MT_mayCastle_123 : List jI := [(.ifCond .ne 7, 3, (130, 0, 0, 0, 0)), (.iconst 1, 1, (0, 0, 0, 1, 0)), (.goto 4, 3, (131, 0, 0, 0, 0))]
theorem o_MT_mayCastle_123 : jokL "ChessHouseModel$Texts" lw_tbl jcl jtb 6 false prog_18_method_18_code 123 k_MT_mayCastle_123 = true := jok_sub oo_MT_mayCastle_0 78 3 rfl rfl
def k_MT_mayCastle_130 : List jI := [(.iconst 0, 1, (0, 0, 0, 0, 0))]
theorem o_MT_mayCastle_130 : jokL "ChessHouseModel$Texts" lw_tbl jcl jtb 6 false prog_18_method_18_code 130 k_MT_mayCastle_130 = true := jok_sub oo_MT_mayCastle_0 81 1 rfl rfl
theorem d_MT_mayCastle_66 : decode prog_18_method_18_code 66 = .ok (.invokevirtual 159, 3) := by decide +kernel
theorem q_MT_mayCastle_66 : jlm lw_tbl 1978 "ChessHouseModel$Texts" 159 ⟨"ChessHouseModel$Texts", "isClear", "(II)Z"⟩ = true := by decide +kernel
theorem d_MT_mayCastle_79 : decode prog_18_method_18_code 79 = .ok (.invokevirtual 159, 3) := by decide +kernel
theorem q_MT_mayCastle_79 : jlm lw_tbl 1978 "ChessHouseModel$Texts" 159 ⟨"ChessHouseModel$Texts", "isClear", "(II)Z"⟩ = true := by decide +kernel
theorem d_MT_mayCastle_102 : decode prog_18_method_18_code 102 = .ok (.invokevirtual 119, 3) := by decide +kernel
theorem q_MT_mayCastle_102 : jlm lw_tbl 1982 "ChessHouseModel$Texts" 119 ⟨"ChessHouseModel$Texts", "isAttacked", "(II)Z"⟩ = true := by decide +kernel
theorem d_MT_mayCastle_120 : decode prog_18_method_18_code 120 = .ok (.invokevirtual 119, 3) := by decide +kernel
theorem q_MT_mayCastle_120 : jlm lw_tbl 1982 "ChessHouseModel$Texts" 119 ⟨"ChessHouseModel$Texts", "isAttacked", "(II)Z"⟩ = true := by decide +kernel
theorem d_MT_mayCastle_131 : decode prog_18_method_18_code 131 = .ok (.ireturn, 1) := by decide +kernel
end
section
def y_MT_pawnGoes : jY := (⟨"ChessHouseModel$Texts", "pawnGoes", "(II)Z"⟩, prog_18_method_19_code, 5, (some .boolean))
theorem m_MT_pawnGoes : jmth lw_tbl y_MT_pawnGoes 2 := ⟨jTA_in (wi := 1973) (by decide +kernel) rfl, jTA_in (wi := 315) (by decide +kernel) rfl, by decide, by decide, by decide +kernel⟩
theorem i_MT_pawnGoes : Jvm.Cond.instanceMethod y_MT_pawnGoes.1 ∈ jTA lw_tbl := jTA_in (wi := 1972) (by decide +kernel) rfl
theorem e_MT_pawnGoes : Jvm.Cond.selects y_MT_pawnGoes.1.cls y_MT_pawnGoes.1 y_MT_pawnGoes.1 ∈ jTA lw_tbl := jTA_in (wi := 117) (by decide +kernel) rfl
def kk_MT_pawnGoes_0 : List jI := [(.aload_n 0, 1, (0, 0, 0, 0, 0)), (.getfield 122, 3, (12, 25, 2057, 0, 0)), (.ifCond .ne 8, 3, (12, 0, 0, 0, 0)), (.bipush 8, 2, (0, 0, 0, 8, 0)), (.goto 5, 3, (14, 0, 0, 0, 0)), (.bipush (-8), 2, (0, 0, 0, (-8), 0)), (.istore_n 3, 1, (3, 0, 0, 0, 0)), (.iload_n 2, 1, (2, 0, 0, 0, 0)), (.iload_n 1, 1, (1, 0, 0, 0, 0)), (.iload_n 3, 1, (3, 0, 0, 0, 0)), (.iadd, 1, (0, 0, 0, 0, 0)), (.if_icmp .ne 18, 3, (37, 0, 0, 0, 0)), (.aload_n 0, 1, (0, 0, 0, 0, 0)), (.getfield 71, 3, (12, 24, 2055, 0, 0)), (.iload_n 2, 1, (2, 0, 0, 0, 0)), (.iaload, 1, (0, 0, 0, 0, 0)), (.ifCond .ne 7, 3, (35, 0, 0, 0, 0)), (.iconst 1, 1, (0, 0, 0, 1, 0)), (.goto 4, 3, (36, 0, 0, 0, 0)), (.iconst 0, 1, (0, 0, 0, 0, 0)), (.ireturn, 1, (0, 0, 0, 0, 0)), (.iload_n 2, 1, (2, 0, 0, 0, 0)), (.iload_n 1, 1, (1, 0, 0, 0, 0)), (.iconst 2, 1, (0, 0, 0, 2, 0)), (.iload_n 3, 1, (3, 0, 0, 0, 0)), (.imul, 1, (0, 0, 0, 0, 0)), (.iadd, 1, (0, 0, 0, 0, 0)), (.if_icmp .ne 49, 3, (92, 0, 0, 0, 0)), (.iload_n 1, 1, (1, 0, 0, 0, 0)), (.bipush 8, 2, (0, 0, 0, 8, 0)), (.idiv, 1, (0, 0, 0, 0, 0)), (.aload_n 0, 1, (0, 0, 0, 0, 0)), (.getfield 122, 3, (12, 25, 2057, 0, 0)), (.ifCond .ne 7, 3, (61, 0, 0, 0, 0)), (.iconst 1, 1, (0, 0, 0, 1, 0)), (.goto 5, 3, (63, 0, 0, 0, 0)), (.bipush 6, 2, (0, 0, 0, 6, 0)), (.if_icmp .ne 27, 3, (90, 0, 0, 0, 0)), (.aload_n 0, 1, (0, 0, 0, 0, 0)), (.getfield 71, 3, (12, 24, 2055, 0, 0)), (.iload_n 1, 1, (1, 0, 0, 0, 0)), (.iload_n 3, 1, (3, 0, 0, 0, 0)), (.iadd, 1, (0, 0, 0, 0, 0)), (.iaload, 1, (0, 0, 0, 0, 0)), (.ifCond .ne 16, 3, (90, 0, 0, 0, 0)), (.aload_n 0, 1, (0, 0, 0, 0, 0)), (.getfield 71, 3, (12, 24, 2055, 0, 0)), (.iload_n 2, 1, (2, 0, 0, 0, 0)), (.iaload, 1, (0, 0, 0, 0, 0)), (.ifCond .ne 7, 3, (90, 0, 0, 0, 0)), (.iconst 1, 1, (0, 0, 0, 1, 0)), (.goto 4, 3, (91, 0, 0, 0, 0)), (.iconst 0, 1, (0, 0, 0, 0, 0)), (.ireturn, 1, (0, 0, 0, 0, 0)), (.iload_n 2, 1, (2, 0, 0, 0, 0)), (.bipush 8, 2, (0, 0, 0, 8, 0)), (.irem, 1, (0, 0, 0, 0, 0)), (.iload_n 1, 1, (1, 0, 0, 0, 0)), (.bipush 8, 2, (0, 0, 0, 8, 0)), (.irem, 1, (0, 0, 0, 0, 0)), (.isub, 1, (0, 0, 0, 0, 0)), (.istore 4, 2, (4, 0, 0, 0, 0)), (.iload_n 2, 1, (2, 0, 0, 0, 0)), (.bipush 8, 2, (0, 0, 0, 8, 0)), (.idiv, 1, (0, 0, 0, 0, 0)), (.iload_n 1, 1, (1, 0, 0, 0, 0)), (.bipush 8, 2, (0, 0, 0, 8, 0)), (.idiv, 1, (0, 0, 0, 0, 0)), (.iload_n 3, 1, (3, 0, 0, 0, 0)), (.bipush 8, 2, (0, 0, 0, 8, 0)), (.idiv, 1, (0, 0, 0, 0, 0)), (.iadd, 1, (0, 0, 0, 0, 0)), (.if_icmp .ne 45, 3, (161, 0, 0, 0, 0)), (.iload 4, 2, (4, 0, 0, 0, 0)), (.iconst 1, 1, (0, 0, 0, 1, 0)), (.if_icmp .eq 9, 3, (131, 0, 0, 0, 0)), (.iload 4, 2, (4, 0, 0, 0, 0)), (.iconst (-1), 1, (0, 0, 0, (-1), 0)), (.if_icmp .ne 33, 3, (161, 0, 0, 0, 0)), (.aload_n 0, 1, (0, 0, 0, 0, 0)), (.getfield 71, 3, (12, 24, 2055, 0, 0)), (.iload_n 2, 1, (2, 0, 0, 0, 0)), (.iaload, 1, (0, 0, 0, 0, 0)), (.invokestatic 162, 3, (0, 0, 0, 0, 0)), (.iconst 1, 1, (0, 0, 0, 1, 0)), (.aload_n 0, 1, (0, 0, 0, 0, 0)), (.getfield 122, 3, (12, 25, 2057, 0, 0)), (.isub, 1, (0, 0, 0, 0, 0)), (.if_icmp .eq 11, 3, (157, 0, 0, 0, 0)), (.iload_n 2, 1, (2, 0, 0, 0, 0)), (.aload_n 0, 1, (0, 0, 0, 0, 0)), (.getfield 128, 3, (12, 27, 2061, 0, 0)), (.if_icmp .ne 7, 3, (161, 0, 0, 0, 0)), (.iconst 1, 1, (0, 0, 0, 1, 0)), (.goto 4, 3, (162, 0, 0, 0, 0)), (.iconst 0, 1, (0, 0, 0, 0, 0)), (.ireturn, 1, (0, 0, 0, 0, 0))]
theorem oo_MT_pawnGoes_0 : jokL "ChessHouseModel$Texts" lw_tbl jcl jtb 5 false prog_18_method_19_code 0 kk_MT_pawnGoes_0 = true := by decide +kernel
def k_MT_pawnGoes_0 : List jI := [(.aload_n 0, 1, (0, 0, 0, 0, 0)), (.getfield 122, 3, (12, 25, 2057, 0, 0)), (.ifCond .ne 8, 3, (12, 0, 0, 0, 0)), (.bipush 8, 2, (0, 0, 0, 8, 0)), (.goto 5, 3, (14, 0, 0, 0, 0))]
theorem o_MT_pawnGoes_0 : jokL "ChessHouseModel$Texts" lw_tbl jcl jtb 5 false prog_18_method_19_code 0 k_MT_pawnGoes_0 = true := jok_sub oo_MT_pawnGoes_0 0 5 rfl rfl
def k_MT_pawnGoes_12 : List jI := [(.bipush (-8), 2, (0, 0, 0, (-8), 0))]
theorem o_MT_pawnGoes_12 : jokL "ChessHouseModel$Texts" lw_tbl jcl jtb 5 false prog_18_method_19_code 12 k_MT_pawnGoes_12 = true := jok_sub oo_MT_pawnGoes_0 5 1 rfl rfl
def k_MT_pawnGoes_14 : List jI := [(.istore_n 3, 1, (3, 0, 0, 0, 0)), (.iload_n 2, 1, (2, 0, 0, 0, 0)), (.iload_n 1, 1, (1, 0, 0, 0, 0)), (.iload_n 3, 1, (3, 0, 0, 0, 0)), (.iadd, 1, (0, 0, 0, 0, 0)), (.if_icmp .ne 18, 3, (37, 0, 0, 0, 0)), (.aload_n 0, 1, (0, 0, 0, 0, 0)), (.getfield 71, 3, (12, 24, 2055, 0, 0)), (.iload_n 2, 1, (2, 0, 0, 0, 0)), (.iaload, 1, (0, 0, 0, 0, 0)), (.ifCond .ne 7, 3, (35, 0, 0, 0, 0)), (.iconst 1, 1, (0, 0, 0, 1, 0)), (.goto 4, 3, (36, 0, 0, 0, 0))]
theorem o_MT_pawnGoes_14 : jokL "ChessHouseModel$Texts" lw_tbl jcl jtb 5 false prog_18_method_19_code 14 k_MT_pawnGoes_14 = true := jok_sub oo_MT_pawnGoes_0 6 13 rfl rfl
def k_MT_pawnGoes_35 : List jI := [(.iconst 0, 1, (0, 0, 0, 0, 0))]
theorem o_MT_pawnGoes_35 : jokL "ChessHouseModel$Texts" lw_tbl jcl jtb 5 false prog_18_method_19_code 35 k_MT_pawnGoes_35 = true := jok_sub oo_MT_pawnGoes_0 19 1 rfl rfl
def k_MT_pawnGoes_37 : List jI := [(.iload_n 2, 1, (2, 0, 0, 0, 0)), (.iload_n 1, 1, (1, 0, 0, 0, 0)), (.iconst 2, 1, (0, 0, 0, 2, 0)), (.iload_n 3, 1, (3, 0, 0, 0, 0)), (.imul, 1, (0, 0, 0, 0, 0)), (.iadd, 1, (0, 0, 0, 0, 0)), (.if_icmp .ne 49, 3, (92, 0, 0, 0, 0)), (.iload_n 1, 1, (1, 0, 0, 0, 0)), (.bipush 8, 2, (0, 0, 0, 8, 0)), (.idiv, 1, (0, 0, 0, 0, 0)), (.aload_n 0, 1, (0, 0, 0, 0, 0)), (.getfield 122, 3, (12, 25, 2057, 0, 0)), (.ifCond .ne 7, 3, (61, 0, 0, 0, 0)), (.iconst 1, 1, (0, 0, 0, 1, 0)), (.goto 5, 3, (63, 0, 0, 0, 0))]
theorem o_MT_pawnGoes_37 : jokL "ChessHouseModel$Texts" lw_tbl jcl jtb 5 false prog_18_method_19_code 37 k_MT_pawnGoes_37 = true := jok_sub oo_MT_pawnGoes_0 21 15 rfl rfl
def k_MT_pawnGoes_61 : List jI := [(.bipush 6, 2, (0, 0, 0, 6, 0))]
theorem o_MT_pawnGoes_61 : jokL "ChessHouseModel$Texts" lw_tbl jcl jtb 5 false prog_18_method_19_code 61 k_MT_pawnGoes_61 = true := jok_sub oo_MT_pawnGoes_0 36 1 rfl rfl
def k_MT_pawnGoes_63 : List jI := [(.if_icmp .ne 27, 3, (90, 0, 0, 0, 0)), (.aload_n 0, 1, (0, 0, 0, 0, 0)), (.getfield 71, 3, (12, 24, 2055, 0, 0)), (.iload_n 1, 1, (1, 0, 0, 0, 0)), (.iload_n 3, 1, (3, 0, 0, 0, 0)), (.iadd, 1, (0, 0, 0, 0, 0)), (.iaload, 1, (0, 0, 0, 0, 0)), (.ifCond .ne 16, 3, (90, 0, 0, 0, 0)), (.aload_n 0, 1, (0, 0, 0, 0, 0)), (.getfield 71, 3, (12, 24, 2055, 0, 0)), (.iload_n 2, 1, (2, 0, 0, 0, 0)), (.iaload, 1, (0, 0, 0, 0, 0)), (.ifCond .ne 7, 3, (90, 0, 0, 0, 0)), (.iconst 1, 1, (0, 0, 0, 1, 0)), (.goto 4, 3, (91, 0, 0, 0, 0))]
theorem o_MT_pawnGoes_63 : jokL "ChessHouseModel$Texts" lw_tbl jcl jtb 5 false prog_18_method_19_code 63 k_MT_pawnGoes_63 = true := jok_sub oo_MT_pawnGoes_0 37 15 rfl rfl
def k_MT_pawnGoes_90 : List jI := [(.iconst 0, 1, (0, 0, 0, 0, 0))]
theorem o_MT_pawnGoes_90 : jokL "ChessHouseModel$Texts" lw_tbl jcl jtb 5 false prog_18_method_19_code 90 k_MT_pawnGoes_90 = true := jok_sub oo_MT_pawnGoes_0 52 1 rfl rfl
def k_MT_pawnGoes_92 : List jI := [(.iload_n 2, 1, (2, 0, 0, 0, 0)), (.bipush 8, 2, (0, 0, 0, 8, 0)), (.irem, 1, (0, 0, 0, 0, 0)), (.iload_n 1, 1, (1, 0, 0, 0, 0)), (.bipush 8, 2, (0, 0, 0, 8, 0)), (.irem, 1, (0, 0, 0, 0, 0)), (.isub, 1, (0, 0, 0, 0, 0)), (.istore 4, 2, (4, 0, 0, 0, 0)), (.iload_n 2, 1, (2, 0, 0, 0, 0)), (.bipush 8, 2, (0, 0, 0, 8, 0)), (.idiv, 1, (0, 0, 0, 0, 0)), (.iload_n 1, 1, (1, 0, 0, 0, 0)), (.bipush 8, 2, (0, 0, 0, 8, 0)), (.idiv, 1, (0, 0, 0, 0, 0)), (.iload_n 3, 1, (3, 0, 0, 0, 0)), (.bipush 8, 2, (0, 0, 0, 8, 0)), (.idiv, 1, (0, 0, 0, 0, 0)), (.iadd, 1, (0, 0, 0, 0, 0)), (.if_icmp .ne 45, 3, (161, 0, 0, 0, 0)), (.iload 4, 2, (4, 0, 0, 0, 0)), (.iconst 1, 1, (0, 0, 0, 1, 0)), (.if_icmp .eq 9, 3, (131, 0, 0, 0, 0)), (.iload 4, 2, (4, 0, 0, 0, 0)), (.iconst (-1), 1, (0, 0, 0, (-1), 0)), (.if_icmp .ne 33, 3, (161, 0, 0, 0, 0))]
theorem o_MT_pawnGoes_92 : jokL "ChessHouseModel$Texts" lw_tbl jcl jtb 5 false prog_18_method_19_code 92 k_MT_pawnGoes_92 = true := jok_sub oo_MT_pawnGoes_0 54 25 rfl rfl
def k_MT_pawnGoes_131 : List jI := [(.aload_n 0, 1, (0, 0, 0, 0, 0)), (.getfield 71, 3, (12, 24, 2055, 0, 0)), (.iload_n 2, 1, (2, 0, 0, 0, 0)), (.iaload, 1, (0, 0, 0, 0, 0))]
theorem o_MT_pawnGoes_131 : jokL "ChessHouseModel$Texts" lw_tbl jcl jtb 5 false prog_18_method_19_code 131 k_MT_pawnGoes_131 = true := jok_sub oo_MT_pawnGoes_0 79 4 rfl rfl
def k_MT_pawnGoes_140 : List jI := [(.iconst 1, 1, (0, 0, 0, 1, 0)), (.aload_n 0, 1, (0, 0, 0, 0, 0)), (.getfield 122, 3, (12, 25, 2057, 0, 0)), (.isub, 1, (0, 0, 0, 0, 0)), (.if_icmp .eq 11, 3, (157, 0, 0, 0, 0)), (.iload_n 2, 1, (2, 0, 0, 0, 0)), (.aload_n 0, 1, (0, 0, 0, 0, 0)), (.getfield 128, 3, (12, 27, 2061, 0, 0)), (.if_icmp .ne 7, 3, (161, 0, 0, 0, 0))]
theorem o_MT_pawnGoes_140 : jokL "ChessHouseModel$Texts" lw_tbl jcl jtb 5 false prog_18_method_19_code 140 k_MT_pawnGoes_140 = true := jok_sub oo_MT_pawnGoes_0 84 9 rfl rfl
def k_MT_pawnGoes_157 : List jI := [(.iconst 1, 1, (0, 0, 0, 1, 0)), (.goto 4, 3, (162, 0, 0, 0, 0))]
theorem o_MT_pawnGoes_157 : jokL "ChessHouseModel$Texts" lw_tbl jcl jtb 5 false prog_18_method_19_code 157 k_MT_pawnGoes_157 = true := jok_sub oo_MT_pawnGoes_0 93 2 rfl rfl
def k_MT_pawnGoes_161 : List jI := [(.iconst 0, 1, (0, 0, 0, 0, 0))]
theorem o_MT_pawnGoes_161 : jokL "ChessHouseModel$Texts" lw_tbl jcl jtb 5 false prog_18_method_19_code 161 k_MT_pawnGoes_161 = true := jok_sub oo_MT_pawnGoes_0 95 1 rfl rfl
theorem d_MT_pawnGoes_36 : decode prog_18_method_19_code 36 = .ok (.ireturn, 1) := by decide +kernel
theorem d_MT_pawnGoes_91 : decode prog_18_method_19_code 91 = .ok (.ireturn, 1) := by decide +kernel
theorem d_MT_pawnGoes_137 : decode prog_18_method_19_code 137 = .ok (.invokestatic 162, 3) := by decide +kernel
theorem q_MT_pawnGoes_137 : jlm lw_tbl 1963 "ChessHouseModel$Texts" 162 ⟨"ChessHouseModel$Texts", "sideOf", "(I)I"⟩ = true := by decide +kernel
theorem d_MT_pawnGoes_162 : decode prog_18_method_19_code 162 = .ok (.ireturn, 1) := by decide +kernel
def y_MT_goes : jY := (⟨"ChessHouseModel$Texts", "goes", "(II)Z"⟩, prog_18_method_20_code, 11, (some .boolean))
theorem m_MT_goes : jmth lw_tbl y_MT_goes 2 := ⟨jTA_in (wi := 1969) (by decide +kernel) rfl, jTA_in (wi := 315) (by decide +kernel) rfl, by decide, by decide, by decide +kernel⟩
theorem i_MT_goes : Jvm.Cond.instanceMethod y_MT_goes.1 ∈ jTA lw_tbl := jTA_in (wi := 1968) (by decide +kernel) rfl
theorem e_MT_goes : Jvm.Cond.selects y_MT_goes.1.cls y_MT_goes.1 y_MT_goes.1 ∈ jTA lw_tbl := jTA_in (wi := 116) (by decide +kernel) rfl
def kk_MT_goes_0 : List jI := [(.aload_n 0, 1, (0, 0, 0, 0, 0)), (.getfield 71, 3, (12, 24, 2055, 0, 0)), (.iload_n 1, 1, (1, 0, 0, 0, 0)), (.iaload, 1, (0, 0, 0, 0, 0)), (.invokestatic 162, 3, (0, 0, 0, 0, 0)), (.aload_n 0, 1, (0, 0, 0, 0, 0)), (.getfield 122, 3, (12, 25, 2057, 0, 0)), (.if_icmp .ne 24, 3, (37, 0, 0, 0, 0)), (.aload_n 0, 1, (0, 0, 0, 0, 0)), (.getfield 71, 3, (12, 24, 2055, 0, 0)), (.iload_n 2, 1, (2, 0, 0, 0, 0)), (.iaload, 1, (0, 0, 0, 0, 0)), (.invokestatic 162, 3, (0, 0, 0, 0, 0)), (.aload_n 0, 1, (0, 0, 0, 0, 0)), (.getfield 122, 3, (12, 25, 2057, 0, 0)), (.if_icmp .eq 8, 3, (37, 0, 0, 0, 0)), (.iload_n 1, 1, (1, 0, 0, 0, 0)), (.iload_n 2, 1, (2, 0, 0, 0, 0)), (.if_icmp .ne 5, 3, (39, 0, 0, 0, 0)), (.iconst 0, 1, (0, 0, 0, 0, 0)), (.ireturn, 1, (0, 0, 0, 0, 0)), (.aload_n 0, 1, (0, 0, 0, 0, 0)), (.getfield 71, 3, (12, 24, 2055, 0, 0)), (.iload_n 1, 1, (1, 0, 0, 0, 0)), (.iaload, 1, (0, 0, 0, 0, 0)), (.invokestatic 137, 3, (0, 0, 0, 0, 0)), (.istore_n 3, 1, (3, 0, 0, 0, 0)), (.iload_n 3, 1, (3, 0, 0, 0, 0)), (.iconst 1, 1, (0, 0, 0, 1, 0)), (.if_icmp .ne 10, 3, (61, 0, 0, 0, 0)), (.aload_n 0, 1, (0, 0, 0, 0, 0)), (.iload_n 1, 1, (1, 0, 0, 0, 0)), (.iload_n 2, 1, (2, 0, 0, 0, 0)), (.invokevirtual 165, 3, (0, 0, 0, 0, 0)), (.ireturn, 1, (0, 0, 0, 0, 0)), (.iload_n 2, 1, (2, 0, 0, 0, 0)), (.bipush 8, 2, (0, 0, 0, 8, 0)), (.irem, 1, (0, 0, 0, 0, 0)), (.iload_n 1, 1, (1, 0, 0, 0, 0)), (.bipush 8, 2, (0, 0, 0, 8, 0)), (.irem, 1, (0, 0, 0, 0, 0)), (.isub, 1, (0, 0, 0, 0, 0)), (.istore 4, 2, (4, 0, 0, 0, 0)), (.iload_n 2, 1, (2, 0, 0, 0, 0)), (.bipush 8, 2, (0, 0, 0, 8, 0)), (.idiv, 1, (0, 0, 0, 0, 0)), (.iload_n 1, 1, (1, 0, 0, 0, 0)), (.bipush 8, 2, (0, 0, 0, 8, 0)), (.idiv, 1, (0, 0, 0, 0, 0)), (.isub, 1, (0, 0, 0, 0, 0)), (.istore 5, 2, (5, 0, 0, 0, 0)), (.iload 4, 2, (4, 0, 0, 0, 0)), (.iload 4, 2, (4, 0, 0, 0, 0)), (.imul, 1, (0, 0, 0, 0, 0)), (.iload 5, 2, (5, 0, 0, 0, 0)), (.iload 5, 2, (5, 0, 0, 0, 0)), (.imul, 1, (0, 0, 0, 0, 0)), (.iadd, 1, (0, 0, 0, 0, 0)), (.istore 6, 2, (6, 0, 0, 0, 0)), (.iload_n 3, 1, (3, 0, 0, 0, 0)), (.iconst 2, 1, (0, 0, 0, 2, 0)), (.if_icmp .ne 15, 3, (113, 0, 0, 0, 0)), (.iload 6, 2, (6, 0, 0, 0, 0)), (.iconst 5, 1, (0, 0, 0, 5, 0)), (.if_icmp .ne 7, 3, (111, 0, 0, 0, 0)), (.iconst 1, 1, (0, 0, 0, 1, 0)), (.goto 4, 3, (112, 0, 0, 0, 0)), (.iconst 0, 1, (0, 0, 0, 0, 0)), (.ireturn, 1, (0, 0, 0, 0, 0)), (.iload_n 3, 1, (3, 0, 0, 0, 0)), (.bipush 6, 2, (0, 0, 0, 6, 0)), (.if_icmp .ne 47, 3, (163, 0, 0, 0, 0)), (.iload 6, 2, (6, 0, 0, 0, 0)), (.iconst 3, 1, (0, 0, 0, 3, 0)), (.if_icmp .lt 35, 3, (157, 0, 0, 0, 0)), (.iload_n 1, 1, (1, 0, 0, 0, 0)), (.iconst 4, 1, (0, 0, 0, 4, 0)), (.bipush 56, 2, (0, 0, 0, 56, 0)), (.aload_n 0, 1, (0, 0, 0, 0, 0)), (.getfield 122, 3, (12, 25, 2057, 0, 0)), (.imul, 1, (0, 0, 0, 0, 0)), (.iadd, 1, (0, 0, 0, 0, 0)), (.if_icmp .ne 26, 3, (161, 0, 0, 0, 0)), (.iload 5, 2, (5, 0, 0, 0, 0)), (.ifCond .ne 21, 3, (161, 0, 0, 0, 0)), (.iload 6, 2, (6, 0, 0, 0, 0)), (.iconst 4, 1, (0, 0, 0, 4, 0)), (.if_icmp .ne 15, 3, (161, 0, 0, 0, 0)), (.aload_n 0, 1, (0, 0, 0, 0, 0)), (.iload_n 2, 1, (2, 0, 0, 0, 0)), (.invokevirtual 168, 3, (0, 0, 0, 0, 0)), (.ifCond .eq 7, 3, (161, 0, 0, 0, 0)), (.iconst 1, 1, (0, 0, 0, 1, 0)), (.goto 4, 3, (162, 0, 0, 0, 0)), (.iconst 0, 1, (0, 0, 0, 0, 0)), (.ireturn, 1, (0, 0, 0, 0, 0)), (.iload 4, 2, (4, 0, 0, 0, 0)), (.ifCond .eq 8, 3, (173, 0, 0, 0, 0)), (.iload 5, 2, (5, 0, 0, 0, 0)), (.ifCond .ne 7, 3, (177, 0, 0, 0, 0)), (.iconst 1, 1, (0, 0, 0, 1, 0)), (.goto 4, 3, (178, 0, 0, 0, 0))]
theorem oo_MT_goes_0 : jokL "ChessHouseModel$Texts" lw_tbl jcl jtb 11 false prog_18_method_20_code 0 kk_MT_goes_0 = true := by decide +kernel
def kk_MT_goes_177 : List jI := [(.iconst 0, 1, (0, 0, 0, 0, 0)), (.istore 7, 2, (7, 0, 0, 0, 0)), (.iload 7, 2, (7, 0, 0, 0, 0)), (.ifCond .ne 18, 3, (200, 0, 0, 0, 0)), (.iload 4, 2, (4, 0, 0, 0, 0)), (.iload 5, 2, (5, 0, 0, 0, 0)), (.if_icmp .eq 11, 3, (200, 0, 0, 0, 0)), (.iload 4, 2, (4, 0, 0, 0, 0)), (.iload 5, 2, (5, 0, 0, 0, 0)), (.ineg, 1, (0, 0, 0, 0, 0)), (.if_icmp .ne 23, 3, (220, 0, 0, 0, 0)), (.iload 7, 2, (7, 0, 0, 0, 0)), (.ifCond .eq 8, 3, (210, 0, 0, 0, 0)), (.iload_n 3, 1, (3, 0, 0, 0, 0)), (.iconst 3, 1, (0, 0, 0, 3, 0)), (.if_icmp .eq 13, 3, (220, 0, 0, 0, 0)), (.iload 7, 2, (7, 0, 0, 0, 0)), (.ifCond .ne 10, 3, (222, 0, 0, 0, 0)), (.iload_n 3, 1, (3, 0, 0, 0, 0)), (.iconst 4, 1, (0, 0, 0, 4, 0)), (.if_icmp .ne 5, 3, (222, 0, 0, 0, 0)), (.iconst 0, 1, (0, 0, 0, 0, 0)), (.ireturn, 1, (0, 0, 0, 0, 0)), (.iload 4, 2, (4, 0, 0, 0, 0)), (.ifCond .le 7, 3, (231, 0, 0, 0, 0)), (.iconst 1, 1, (0, 0, 0, 1, 0)), (.goto 13, 3, (241, 0, 0, 0, 0)), (.iload 4, 2, (4, 0, 0, 0, 0)), (.ifCond .ge 7, 3, (240, 0, 0, 0, 0)), (.iconst (-1), 1, (0, 0, 0, (-1), 0)), (.goto 4, 3, (241, 0, 0, 0, 0)), (.iconst 0, 1, (0, 0, 0, 0, 0)), (.istore 8, 2, (8, 0, 0, 0, 0)), (.iload 5, 2, (5, 0, 0, 0, 0)), (.ifCond .le 7, 3, (252, 0, 0, 0, 0)), (.iconst 1, 1, (0, 0, 0, 1, 0)), (.goto 13, 3, (262, 0, 0, 0, 0)), (.iload 5, 2, (5, 0, 0, 0, 0)), (.ifCond .ge 7, 3, (261, 0, 0, 0, 0)), (.iconst (-1), 1, (0, 0, 0, (-1), 0)), (.goto 4, 3, (262, 0, 0, 0, 0)), (.iconst 0, 1, (0, 0, 0, 0, 0)), (.istore 9, 2, (9, 0, 0, 0, 0)), (.iload_n 1, 1, (1, 0, 0, 0, 0)), (.iload 8, 2, (8, 0, 0, 0, 0)), (.iload 9, 2, (9, 0, 0, 0, 0)), (.invokestatic 104, 3, (0, 0, 0, 0, 0)), (.istore 10, 2, (10, 0, 0, 0, 0)), (.iload 10, 2, (10, 0, 0, 0, 0)), (.iload_n 2, 1, (2, 0, 0, 0, 0)), (.if_icmp .eq 27, 3, (304, 0, 0, 0, 0)), (.aload_n 0, 1, (0, 0, 0, 0, 0)), (.getfield 71, 3, (12, 24, 2055, 0, 0)), (.iload 10, 2, (10, 0, 0, 0, 0)), (.iaload, 1, (0, 0, 0, 0, 0)), (.ifCond .ne 17, 3, (304, 0, 0, 0, 0)), (.iload 10, 2, (10, 0, 0, 0, 0)), (.iload 8, 2, (8, 0, 0, 0, 0)), (.iload 9, 2, (9, 0, 0, 0, 0)), (.invokestatic 104, 3, (0, 0, 0, 0, 0)), (.istore 10, 2, (10, 0, 0, 0, 0)), (.goto (-27), 3, (274, 0, 0, 0, 0)), (.iload 10, 2, (10, 0, 0, 0, 0)), (.iload_n 2, 1, (2, 0, 0, 0, 0)), (.if_icmp .ne 7, 3, (314, 0, 0, 0, 0)), (.iconst 1, 1, (0, 0, 0, 1, 0)), (.goto 4, 3, (315, 0, 0, 0, 0)), (.iconst 0, 1, (0, 0, 0, 0, 0)), (.ireturn, 1, (0, 0, 0, 0, 0))]
theorem oo_MT_goes_177 : jokL "ChessHouseModel$Texts" lw_tbl jcl jtb 11 false prog_18_method_20_code 177 kk_MT_goes_177 = true := by decide +kernel
def k_MT_goes_0 : List jI := [(.aload_n 0, 1, (0, 0, 0, 0, 0)), (.getfield 71, 3, (12, 24, 2055, 0, 0)), (.iload_n 1, 1, (1, 0, 0, 0, 0)), (.iaload, 1, (0, 0, 0, 0, 0))]
theorem o_MT_goes_0 : jokL "ChessHouseModel$Texts" lw_tbl jcl jtb 11 false prog_18_method_20_code 0 k_MT_goes_0 = true := jok_sub oo_MT_goes_0 0 4 rfl rfl
def k_MT_goes_9 : List jI := [(.aload_n 0, 1, (0, 0, 0, 0, 0)), (.getfield 122, 3, (12, 25, 2057, 0, 0)), (.if_icmp .ne 24, 3, (37, 0, 0, 0, 0)), (.aload_n 0, 1, (0, 0, 0, 0, 0)), (.getfield 71, 3, (12, 24, 2055, 0, 0)), (.iload_n 2, 1, (2, 0, 0, 0, 0)), (.iaload, 1, (0, 0, 0, 0, 0))]
theorem o_MT_goes_9 : jokL "ChessHouseModel$Texts" lw_tbl jcl jtb 11 false prog_18_method_20_code 9 k_MT_goes_9 = true := jok_sub oo_MT_goes_0 5 7 rfl rfl
def k_MT_goes_25 : List jI := [(.aload_n 0, 1, (0, 0, 0, 0, 0)), (.getfield 122, 3, (12, 25, 2057, 0, 0)), (.if_icmp .eq 8, 3, (37, 0, 0, 0, 0)), (.iload_n 1, 1, (1, 0, 0, 0, 0)), (.iload_n 2, 1, (2, 0, 0, 0, 0)), (.if_icmp .ne 5, 3, (39, 0, 0, 0, 0))]
theorem o_MT_goes_25 : jokL "ChessHouseModel$Texts" lw_tbl jcl jtb 11 false prog_18_method_20_code 25 k_MT_goes_25 = true := jok_sub oo_MT_goes_0 13 6 rfl rfl
def k_MT_goes_37 : List jI := [(.iconst 0, 1, (0, 0, 0, 0, 0))]
theorem o_MT_goes_37 : jokL "ChessHouseModel$Texts" lw_tbl jcl jtb 11 false prog_18_method_20_code 37 k_MT_goes_37 = true := jok_sub oo_MT_goes_0 19 1 rfl rfl
def k_MT_goes_39 : List jI := [(.aload_n 0, 1, (0, 0, 0, 0, 0)), (.getfield 71, 3, (12, 24, 2055, 0, 0)), (.iload_n 1, 1, (1, 0, 0, 0, 0)), (.iaload, 1, (0, 0, 0, 0, 0))]
theorem o_MT_goes_39 : jokL "ChessHouseModel$Texts" lw_tbl jcl jtb 11 false prog_18_method_20_code 39 k_MT_goes_39 = true := jok_sub oo_MT_goes_0 21 4 rfl rfl
def k_MT_goes_48 : List jI := [(.istore_n 3, 1, (3, 0, 0, 0, 0)), (.iload_n 3, 1, (3, 0, 0, 0, 0)), (.iconst 1, 1, (0, 0, 0, 1, 0)), (.if_icmp .ne 10, 3, (61, 0, 0, 0, 0)), (.aload_n 0, 1, (0, 0, 0, 0, 0)), (.iload_n 1, 1, (1, 0, 0, 0, 0)), (.iload_n 2, 1, (2, 0, 0, 0, 0))]
theorem o_MT_goes_48 : jokL "ChessHouseModel$Texts" lw_tbl jcl jtb 11 false prog_18_method_20_code 48 k_MT_goes_48 = true := jok_sub oo_MT_goes_0 26 7 rfl rfl
def k_MT_goes_61 : List jI := [(.iload_n 2, 1, (2, 0, 0, 0, 0)), (.bipush 8, 2, (0, 0, 0, 8, 0)), (.irem, 1, (0, 0, 0, 0, 0)), (.iload_n 1, 1, (1, 0, 0, 0, 0)), (.bipush 8, 2, (0, 0, 0, 8, 0)), (.irem, 1, (0, 0, 0, 0, 0)), (.isub, 1, (0, 0, 0, 0, 0)), (.istore 4, 2, (4, 0, 0, 0, 0)), (.iload_n 2, 1, (2, 0, 0, 0, 0)), (.bipush 8, 2, (0, 0, 0, 8, 0)), (.idiv, 1, (0, 0, 0, 0, 0)), (.iload_n 1, 1, (1, 0, 0, 0, 0)), (.bipush 8, 2, (0, 0, 0, 8, 0)), (.idiv, 1, (0, 0, 0, 0, 0)), (.isub, 1, (0, 0, 0, 0, 0)), (.istore 5, 2, (5, 0, 0, 0, 0)), (.iload 4, 2, (4, 0, 0, 0, 0)), (.iload 4, 2, (4, 0, 0, 0, 0)), (.imul, 1, (0, 0, 0, 0, 0)), (.iload 5, 2, (5, 0, 0, 0, 0)), (.iload 5, 2, (5, 0, 0, 0, 0)), (.imul, 1, (0, 0, 0, 0, 0)), (.iadd, 1, (0, 0, 0, 0, 0)), (.istore 6, 2, (6, 0, 0, 0, 0)), (.iload_n 3, 1, (3, 0, 0, 0, 0)), (.iconst 2, 1, (0, 0, 0, 2, 0)), (.if_icmp .ne 15, 3, (113, 0, 0, 0, 0)), (.iload 6, 2, (6, 0, 0, 0, 0)), (.iconst 5, 1, (0, 0, 0, 5, 0)), (.if_icmp .ne 7, 3, (111, 0, 0, 0, 0)), (.iconst 1, 1, (0, 0, 0, 1, 0)), (.goto 4, 3, (112, 0, 0, 0, 0))]
theorem o_MT_goes_61 : jokL "ChessHouseModel$Texts" lw_tbl jcl jtb 11 false prog_18_method_20_code 61 k_MT_goes_61 = true := jok_sub oo_MT_goes_0 35 32 rfl rfl
def k_MT_goes_111 : List jI := [(.iconst 0, 1, (0, 0, 0, 0, 0))]
theorem o_MT_goes_111 : jokL "ChessHouseModel$Texts" lw_tbl jcl jtb 11 false prog_18_method_20_code 111 k_MT_goes_111 = true := jok_sub oo_MT_goes_0 67 1 rfl rfl
def k_MT_goes_113 : List jI := [(.iload_n 3, 1, (3, 0, 0, 0, 0)), (.bipush 6, 2, (0, 0, 0, 6, 0)), (.if_icmp .ne 47, 3, (163, 0, 0, 0, 0)), (.iload 6, 2, (6, 0, 0, 0, 0)), (.iconst 3, 1, (0, 0, 0, 3, 0)), (.if_icmp .lt 35, 3, (157, 0, 0, 0, 0)), (.iload_n 1, 1, (1, 0, 0, 0, 0)), (.iconst 4, 1, (0, 0, 0, 4, 0)), (.bipush 56, 2, (0, 0, 0, 56, 0)), (.aload_n 0, 1, (0, 0, 0, 0, 0)), (.getfield 122, 3, (12, 25, 2057, 0, 0)), (.imul, 1, (0, 0, 0, 0, 0)), (.iadd, 1, (0, 0, 0, 0, 0)), (.if_icmp .ne 26, 3, (161, 0, 0, 0, 0)), (.iload 5, 2, (5, 0, 0, 0, 0)), (.ifCond .ne 21, 3, (161, 0, 0, 0, 0)), (.iload 6, 2, (6, 0, 0, 0, 0)), (.iconst 4, 1, (0, 0, 0, 4, 0)), (.if_icmp .ne 15, 3, (161, 0, 0, 0, 0)), (.aload_n 0, 1, (0, 0, 0, 0, 0)), (.iload_n 2, 1, (2, 0, 0, 0, 0))]
theorem o_MT_goes_113 : jokL "ChessHouseModel$Texts" lw_tbl jcl jtb 11 false prog_18_method_20_code 113 k_MT_goes_113 = true := jok_sub oo_MT_goes_0 69 21 rfl rfl
def k_MT_goes_154 : List jI := [(.ifCond .eq 7, 3, (161, 0, 0, 0, 0))]
theorem o_MT_goes_154 : jokL "ChessHouseModel$Texts" lw_tbl jcl jtb 11 false prog_18_method_20_code 154 k_MT_goes_154 = true := jok_sub oo_MT_goes_0 91 1 rfl rfl
def k_MT_goes_157 : List jI := [(.iconst 1, 1, (0, 0, 0, 1, 0)), (.goto 4, 3, (162, 0, 0, 0, 0))]
theorem o_MT_goes_157 : jokL "ChessHouseModel$Texts" lw_tbl jcl jtb 11 false prog_18_method_20_code 157 k_MT_goes_157 = true := jok_sub oo_MT_goes_0 92 2 rfl rfl
def k_MT_goes_161 : List jI := [(.iconst 0, 1, (0, 0, 0, 0, 0))]
theorem o_MT_goes_161 : jokL "ChessHouseModel$Texts" lw_tbl jcl jtb 11 false prog_18_method_20_code 161 k_MT_goes_161 = true := jok_sub oo_MT_goes_0 94 1 rfl rfl
def k_MT_goes_163 : List jI := [(.iload 4, 2, (4, 0, 0, 0, 0)), (.ifCond .eq 8, 3, (173, 0, 0, 0, 0)), (.iload 5, 2, (5, 0, 0, 0, 0)), (.ifCond .ne 7, 3, (177, 0, 0, 0, 0))]
theorem o_MT_goes_163 : jokL "ChessHouseModel$Texts" lw_tbl jcl jtb 11 false prog_18_method_20_code 163 k_MT_goes_163 = true := jok_sub oo_MT_goes_0 96 4 rfl rfl
def k_MT_goes_173 : List jI := [(.iconst 1, 1, (0, 0, 0, 1, 0)), (.goto 4, 3, (178, 0, 0, 0, 0))]
theorem o_MT_goes_173 : jokL "ChessHouseModel$Texts" lw_tbl jcl jtb 11 false prog_18_method_20_code 173 k_MT_goes_173 = true := jok_sub oo_MT_goes_0 100 2 rfl rfl
def k_MT_goes_177 : List jI := [(.iconst 0, 1, (0, 0, 0, 0, 0))]
theorem o_MT_goes_177 : jokL "ChessHouseModel$Texts" lw_tbl jcl jtb 11 false prog_18_method_20_code 177 k_MT_goes_177 = true := jok_sub oo_MT_goes_177 0 1 rfl rfl
def k_MT_goes_178 : List jI := [(.istore 7, 2, (7, 0, 0, 0, 0)), (.iload 7, 2, (7, 0, 0, 0, 0)), (.ifCond .ne 18, 3, (200, 0, 0, 0, 0)), (.iload 4, 2, (4, 0, 0, 0, 0)), (.iload 5, 2, (5, 0, 0, 0, 0)), (.if_icmp .eq 11, 3, (200, 0, 0, 0, 0)), (.iload 4, 2, (4, 0, 0, 0, 0)), (.iload 5, 2, (5, 0, 0, 0, 0)), (.ineg, 1, (0, 0, 0, 0, 0)), (.if_icmp .ne 23, 3, (220, 0, 0, 0, 0))]
theorem o_MT_goes_178 : jokL "ChessHouseModel$Texts" lw_tbl jcl jtb 11 false prog_18_method_20_code 178 k_MT_goes_178 = true := jok_sub oo_MT_goes_177 1 10 rfl rfl
def k_MT_goes_200 : List jI := [(.iload 7, 2, (7, 0, 0, 0, 0)), (.ifCond .eq 8, 3, (210, 0, 0, 0, 0)), (.iload_n 3, 1, (3, 0, 0, 0, 0)), (.iconst 3, 1, (0, 0, 0, 3, 0)), (.if_icmp .eq 13, 3, (220, 0, 0, 0, 0))]
theorem o_MT_goes_200 : jokL "ChessHouseModel$Texts" lw_tbl jcl jtb 11 false prog_18_method_20_code 200 k_MT_goes_200 = true := jok_sub oo_MT_goes_177 11 5 rfl rfl
def k_MT_goes_210 : List jI := [(.iload 7, 2, (7, 0, 0, 0, 0)), (.ifCond .ne 10, 3, (222, 0, 0, 0, 0)), (.iload_n 3, 1, (3, 0, 0, 0, 0)), (.iconst 4, 1, (0, 0, 0, 4, 0)), (.if_icmp .ne 5, 3, (222, 0, 0, 0, 0))]
theorem o_MT_goes_210 : jokL "ChessHouseModel$Texts" lw_tbl jcl jtb 11 false prog_18_method_20_code 210 k_MT_goes_210 = true := jok_sub oo_MT_goes_177 16 5 rfl rfl
def k_MT_goes_220 : List jI := [(.iconst 0, 1, (0, 0, 0, 0, 0))]
theorem o_MT_goes_220 : jokL "ChessHouseModel$Texts" lw_tbl jcl jtb 11 false prog_18_method_20_code 220 k_MT_goes_220 = true := jok_sub oo_MT_goes_177 21 1 rfl rfl
def k_MT_goes_222 : List jI := [(.iload 4, 2, (4, 0, 0, 0, 0)), (.ifCond .le 7, 3, (231, 0, 0, 0, 0)), (.iconst 1, 1, (0, 0, 0, 1, 0)), (.goto 13, 3, (241, 0, 0, 0, 0))]
theorem o_MT_goes_222 : jokL "ChessHouseModel$Texts" lw_tbl jcl jtb 11 false prog_18_method_20_code 222 k_MT_goes_222 = true := jok_sub oo_MT_goes_177 23 4 rfl rfl
def k_MT_goes_231 : List jI := [(.iload 4, 2, (4, 0, 0, 0, 0)), (.ifCond .ge 7, 3, (240, 0, 0, 0, 0)), (.iconst (-1), 1, (0, 0, 0, (-1), 0)), (.goto 4, 3, (241, 0, 0, 0, 0))]
theorem o_MT_goes_231 : jokL "ChessHouseModel$Texts" lw_tbl jcl jtb 11 false prog_18_method_20_code 231 k_MT_goes_231 = true := jok_sub oo_MT_goes_177 27 4 rfl rfl
def k_MT_goes_240 : List jI := [(.iconst 0, 1, (0, 0, 0, 0, 0))]
theorem o_MT_goes_240 : jokL "ChessHouseModel$Texts" lw_tbl jcl jtb 11 false prog_18_method_20_code 240 k_MT_goes_240 = true := jok_sub oo_MT_goes_177 31 1 rfl rfl
def k_MT_goes_241 : List jI := [(.istore 8, 2, (8, 0, 0, 0, 0)), (.iload 5, 2, (5, 0, 0, 0, 0)), (.ifCond .le 7, 3, (252, 0, 0, 0, 0)), (.iconst 1, 1, (0, 0, 0, 1, 0)), (.goto 13, 3, (262, 0, 0, 0, 0))]
theorem o_MT_goes_241 : jokL "ChessHouseModel$Texts" lw_tbl jcl jtb 11 false prog_18_method_20_code 241 k_MT_goes_241 = true := jok_sub oo_MT_goes_177 32 5 rfl rfl
def k_MT_goes_252 : List jI := [(.iload 5, 2, (5, 0, 0, 0, 0)), (.ifCond .ge 7, 3, (261, 0, 0, 0, 0)), (.iconst (-1), 1, (0, 0, 0, (-1), 0)), (.goto 4, 3, (262, 0, 0, 0, 0))]
theorem o_MT_goes_252 : jokL "ChessHouseModel$Texts" lw_tbl jcl jtb 11 false prog_18_method_20_code 252 k_MT_goes_252 = true := jok_sub oo_MT_goes_177 37 4 rfl rfl
def k_MT_goes_261 : List jI := [(.iconst 0, 1, (0, 0, 0, 0, 0))]
theorem o_MT_goes_261 : jokL "ChessHouseModel$Texts" lw_tbl jcl jtb 11 false prog_18_method_20_code 261 k_MT_goes_261 = true := jok_sub oo_MT_goes_177 41 1 rfl rfl
def k_MT_goes_262 : List jI := [(.istore 9, 2, (9, 0, 0, 0, 0)), (.iload_n 1, 1, (1, 0, 0, 0, 0)), (.iload 8, 2, (8, 0, 0, 0, 0)), (.iload 9, 2, (9, 0, 0, 0, 0))]
theorem o_MT_goes_262 : jokL "ChessHouseModel$Texts" lw_tbl jcl jtb 11 false prog_18_method_20_code 262 k_MT_goes_262 = true := jok_sub oo_MT_goes_177 42 4 rfl rfl
def k_MT_goes_272 : List jI := [(.istore 10, 2, (10, 0, 0, 0, 0))]
theorem o_MT_goes_272 : jokL "ChessHouseModel$Texts" lw_tbl jcl jtb 11 false prog_18_method_20_code 272 k_MT_goes_272 = true := jok_sub oo_MT_goes_177 47 1 rfl rfl
def k_MT_goes_274 : List jI := [(.iload 10, 2, (10, 0, 0, 0, 0)), (.iload_n 2, 1, (2, 0, 0, 0, 0)), (.if_icmp .eq 27, 3, (304, 0, 0, 0, 0)), (.aload_n 0, 1, (0, 0, 0, 0, 0)), (.getfield 71, 3, (12, 24, 2055, 0, 0)), (.iload 10, 2, (10, 0, 0, 0, 0)), (.iaload, 1, (0, 0, 0, 0, 0)), (.ifCond .ne 17, 3, (304, 0, 0, 0, 0)), (.iload 10, 2, (10, 0, 0, 0, 0)), (.iload 8, 2, (8, 0, 0, 0, 0)), (.iload 9, 2, (9, 0, 0, 0, 0))]
theorem o_MT_goes_274 : jokL "ChessHouseModel$Texts" lw_tbl jcl jtb 11 false prog_18_method_20_code 274 k_MT_goes_274 = true := jok_sub oo_MT_goes_177 48 11 rfl rfl
def k_MT_goes_299 : List jI := [(.istore 10, 2, (10, 0, 0, 0, 0)), (.goto (-27), 3, (274, 0, 0, 0, 0))]
theorem o_MT_goes_299 : jokL "ChessHouseModel$Texts" lw_tbl jcl jtb 11 false prog_18_method_20_code 299 k_MT_goes_299 = true := jok_sub oo_MT_goes_177 60 2 rfl rfl
def k_MT_goes_304 : List jI := [(.iload 10, 2, (10, 0, 0, 0, 0)), (.iload_n 2, 1, (2, 0, 0, 0, 0)), (.if_icmp .ne 7, 3, (314, 0, 0, 0, 0)), (.iconst 1, 1, (0, 0, 0, 1, 0)), (.goto 4, 3, (315, 0, 0, 0, 0))]
theorem o_MT_goes_304 : jokL "ChessHouseModel$Texts" lw_tbl jcl jtb 11 false prog_18_method_20_code 304 k_MT_goes_304 = true := jok_sub oo_MT_goes_177 62 5 rfl rfl
def k_MT_goes_314 : List jI := [(.iconst 0, 1, (0, 0, 0, 0, 0))]
theorem o_MT_goes_314 : jokL "ChessHouseModel$Texts" lw_tbl jcl jtb 11 false prog_18_method_20_code 314 k_MT_goes_314 = true := jok_sub oo_MT_goes_177 67 1 rfl rfl
theorem d_MT_goes_6 : decode prog_18_method_20_code 6 = .ok (.invokestatic 162, 3) := by decide +kernel
theorem q_MT_goes_6 : jlm lw_tbl 1963 "ChessHouseModel$Texts" 162 ⟨"ChessHouseModel$Texts", "sideOf", "(I)I"⟩ = true := by decide +kernel
theorem d_MT_goes_22 : decode prog_18_method_20_code 22 = .ok (.invokestatic 162, 3) := by decide +kernel
theorem q_MT_goes_22 : jlm lw_tbl 1963 "ChessHouseModel$Texts" 162 ⟨"ChessHouseModel$Texts", "sideOf", "(I)I"⟩ = true := by decide +kernel
theorem d_MT_goes_38 : decode prog_18_method_20_code 38 = .ok (.ireturn, 1) := by decide +kernel
theorem d_MT_goes_45 : decode prog_18_method_20_code 45 = .ok (.invokestatic 137, 3) := by decide +kernel
theorem q_MT_goes_45 : jlm lw_tbl 1941 "ChessHouseModel$Texts" 137 ⟨"ChessHouseModel$Texts", "kind", "(I)I"⟩ = true := by decide +kernel
theorem d_MT_goes_57 : decode prog_18_method_20_code 57 = .ok (.invokevirtual 165, 3) := by decide +kernel
theorem q_MT_goes_57 : jlm lw_tbl 1970 "ChessHouseModel$Texts" 165 ⟨"ChessHouseModel$Texts", "pawnGoes", "(II)Z"⟩ = true := by decide +kernel
theorem d_MT_goes_60 : decode prog_18_method_20_code 60 = .ok (.ireturn, 1) := by decide +kernel
theorem d_MT_goes_112 : decode prog_18_method_20_code 112 = .ok (.ireturn, 1) := by decide +kernel
theorem d_MT_goes_151 : decode prog_18_method_20_code 151 = .ok (.invokevirtual 168, 3) := by decide +kernel
theorem q_MT_goes_151 : jlm lw_tbl 1974 "ChessHouseModel$Texts" 168 ⟨"ChessHouseModel$Texts", "mayCastle", "(I)Z"⟩ = true := by decide +kernel
theorem d_MT_goes_162 : decode prog_18_method_20_code 162 = .ok (.ireturn, 1) := by decide +kernel
theorem d_MT_goes_221 : decode prog_18_method_20_code 221 = .ok (.ireturn, 1) := by decide +kernel
theorem d_MT_goes_269 : decode prog_18_method_20_code 269 = .ok (.invokestatic 104, 3) := by decide +kernel
theorem q_MT_goes_269 : jlm lw_tbl 1952 "ChessHouseModel$Texts" 104 ⟨"ChessHouseModel$Texts", "step", "(III)I"⟩ = true := by decide +kernel
theorem d_MT_goes_296 : decode prog_18_method_20_code 296 = .ok (.invokestatic 104, 3) := by decide +kernel
theorem q_MT_goes_296 : jlm lw_tbl 1952 "ChessHouseModel$Texts" 104 ⟨"ChessHouseModel$Texts", "step", "(III)I"⟩ = true := by decide +kernel
theorem d_MT_goes_315 : decode prog_18_method_20_code 315 = .ok (.ireturn, 1) := by decide +kernel
def y_MT_findMoves : jY := (⟨"ChessHouseModel$Texts", "findMoves", "()V"⟩, prog_18_method_21_code, 6, none)
theorem m_MT_findMoves : jmth lw_tbl y_MT_findMoves 0 := ⟨jTA_in (wi := 1962) (by decide +kernel) rfl, jTA_in (wi := 315) (by decide +kernel) rfl, by decide, by decide, by decide +kernel⟩
theorem i_MT_findMoves : Jvm.Cond.instanceMethod y_MT_findMoves.1 ∈ jTA lw_tbl := jTA_in (wi := 1961) (by decide +kernel) rfl
theorem e_MT_findMoves : Jvm.Cond.selects y_MT_findMoves.1.cls y_MT_findMoves.1 y_MT_findMoves.1 ∈ jTA lw_tbl := jTA_in (wi := 115) (by decide +kernel) rfl
def kk_MT_findMoves_0 : List jI := [(.aload_n 0, 1, (0, 0, 0, 0, 0)), (.iconst 0, 1, (0, 0, 0, 0, 0)), (.putfield 171, 3, (12, 33, 2071, 0, 0)), (.iconst 0, 1, (0, 0, 0, 0, 0)), (.istore_n 1, 1, (1, 0, 0, 0, 0)), (.iload_n 1, 1, (1, 0, 0, 0, 0)), (.bipush 64, 2, (0, 0, 0, 64, 0)), (.if_icmp .ge 159, 3, (169, 0, 0, 0, 0)), (.iconst 0, 1, (0, 0, 0, 0, 0)), (.istore_n 2, 1, (2, 0, 0, 0, 0)), (.iload_n 2, 1, (2, 0, 0, 0, 0)), (.bipush 64, 2, (0, 0, 0, 64, 0)), (.if_icmp .ge 145, 3, (163, 0, 0, 0, 0)), (.aload_n 0, 1, (0, 0, 0, 0, 0)), (.getfield 71, 3, (12, 24, 2055, 0, 0)), (.iload_n 1, 1, (1, 0, 0, 0, 0)), (.iaload, 1, (0, 0, 0, 0, 0)), (.invokestatic 162, 3, (0, 0, 0, 0, 0)), (.aload_n 0, 1, (0, 0, 0, 0, 0)), (.getfield 122, 3, (12, 25, 2057, 0, 0)), (.if_icmp .ne 129, 3, (163, 0, 0, 0, 0)), (.aload_n 0, 1, (0, 0, 0, 0, 0)), (.iload_n 1, 1, (1, 0, 0, 0, 0)), (.iload_n 2, 1, (2, 0, 0, 0, 0)), (.invokevirtual 174, 3, (0, 0, 0, 0, 0)), (.ifCond .eq 114, 3, (157, 0, 0, 0, 0)), (.aload_n 0, 1, (0, 0, 0, 0, 0)), (.getfield 71, 3, (12, 24, 2055, 0, 0)), (.iload_n 1, 1, (1, 0, 0, 0, 0)), (.iaload, 1, (0, 0, 0, 0, 0)), (.invokestatic 137, 3, (0, 0, 0, 0, 0)), (.iconst 1, 1, (0, 0, 0, 1, 0)), (.if_icmp .ne 19, 3, (75, 0, 0, 0, 0)), (.iload_n 2, 1, (2, 0, 0, 0, 0)), (.bipush 8, 2, (0, 0, 0, 8, 0)), (.if_icmp .lt 9, 3, (71, 0, 0, 0, 0)), (.iload_n 2, 1, (2, 0, 0, 0, 0)), (.bipush 55, 2, (0, 0, 0, 55, 0)), (.if_icmp .le 7, 3, (75, 0, 0, 0, 0)), (.iconst 1, 1, (0, 0, 0, 1, 0)), (.goto 4, 3, (76, 0, 0, 0, 0)), (.iconst 0, 1, (0, 0, 0, 0, 0)), (.istore_n 3, 1, (3, 0, 0, 0, 0)), (.aload_n 0, 1, (0, 0, 0, 0, 0)), (.iload_n 1, 1, (1, 0, 0, 0, 0)), (.bipush 64, 2, (0, 0, 0, 64, 0)), (.iload_n 2, 1, (2, 0, 0, 0, 0)), (.imul, 1, (0, 0, 0, 0, 0)), (.iadd, 1, (0, 0, 0, 0, 0)), (.invokevirtual 177, 3, (0, 0, 0, 0, 0)), (.istore 4, 2, (4, 0, 0, 0, 0)), (.iload_n 3, 1, (3, 0, 0, 0, 0)), (.ifCond .eq 7, 3, (97, 0, 0, 0, 0)), (.iconst 2, 1, (0, 0, 0, 2, 0)), (.goto 4, 3, (98, 0, 0, 0, 0)), (.iconst 0, 1, (0, 0, 0, 0, 0)), (.istore 5, 2, (5, 0, 0, 0, 0)), (.iload 4, 2, (4, 0, 0, 0, 0)), (.ifCond .eq 55, 3, (157, 0, 0, 0, 0)), (.iload 5, 2, (5, 0, 0, 0, 0)), (.iload_n 3, 1, (3, 0, 0, 0, 0)), (.ifCond .eq 7, 3, (115, 0, 0, 0, 0)), (.iconst 5, 1, (0, 0, 0, 5, 0)), (.goto 4, 3, (116, 0, 0, 0, 0)), (.iconst 0, 1, (0, 0, 0, 0, 0)), (.if_icmp .gt 41, 3, (157, 0, 0, 0, 0)), (.aload_n 0, 1, (0, 0, 0, 0, 0)), (.getfield 80, 3, (12, 32, 2069, 0, 0)), (.aload_n 0, 1, (0, 0, 0, 0, 0)), (.getfield 171, 3, (12, 33, 2071, 0, 0)), (.iload_n 1, 1, (1, 0, 0, 0, 0)), (.bipush 64, 2, (0, 0, 0, 64, 0)), (.iload_n 2, 1, (2, 0, 0, 0, 0)), (.imul, 1, (0, 0, 0, 0, 0)), (.iadd, 1, (0, 0, 0, 0, 0)), (.sipush 4096, 3, (0, 0, 0, 4096, 0)), (.iload 5, 2, (5, 0, 0, 0, 0)), (.imul, 1, (0, 0, 0, 0, 0)), (.iadd, 1, (0, 0, 0, 0, 0)), (.iastore, 1, (0, 0, 0, 0, 0)), (.aload_n 0, 1, (0, 0, 0, 0, 0)), (.dup, 1, (0, 0, 0, 0, 0)), (.getfield 171, 3, (12, 33, 2071, 0, 0)), (.iconst 1, 1, (0, 0, 0, 1, 0)), (.iadd, 1, (0, 0, 0, 0, 0)), (.putfield 171, 3, (12, 33, 2071, 0, 0)), (.iinc 5 1, 3, (0, 0, 0, 1, 0)), (.goto (-54), 3, (100, 0, 0, 0, 0)), (.iinc 2 1, 3, (0, 0, 0, 1, 0)), (.goto (-145), 3, (15, 0, 0, 0, 0)), (.iinc 1 1, 3, (0, 0, 0, 1, 0)), (.goto (-159), 3, (7, 0, 0, 0, 0)), (.return_, 1, (0, 0, 0, 0, 0))]
theorem oo_MT_findMoves_0 : jokL "ChessHouseModel$Texts" lw_tbl jcl jtb 6 false prog_18_method_21_code 0 kk_MT_findMoves_0 = true := by decide +kernel
def k_MT_findMoves_0 : List jI := [(.aload_n 0, 1, (0, 0, 0, 0, 0)), (.iconst 0, 1, (0, 0, 0, 0, 0)), (.putfield 171, 3, (12, 33, 2071, 0, 0)), (.iconst 0, 1, (0, 0, 0, 0, 0)), (.istore_n 1, 1, (1, 0, 0, 0, 0))]
theorem o_MT_findMoves_0 : jokL "ChessHouseModel$Texts" lw_tbl jcl jtb 6 false prog_18_method_21_code 0 k_MT_findMoves_0 = true := jok_sub oo_MT_findMoves_0 0 5 rfl rfl
def k_MT_findMoves_7 : List jI := [(.iload_n 1, 1, (1, 0, 0, 0, 0)), (.bipush 64, 2, (0, 0, 0, 64, 0)), (.if_icmp .ge 159, 3, (169, 0, 0, 0, 0)), (.iconst 0, 1, (0, 0, 0, 0, 0)), (.istore_n 2, 1, (2, 0, 0, 0, 0))]
theorem o_MT_findMoves_7 : jokL "ChessHouseModel$Texts" lw_tbl jcl jtb 6 false prog_18_method_21_code 7 k_MT_findMoves_7 = true := jok_sub oo_MT_findMoves_0 5 5 rfl rfl
def k_MT_findMoves_15 : List jI := [(.iload_n 2, 1, (2, 0, 0, 0, 0)), (.bipush 64, 2, (0, 0, 0, 64, 0)), (.if_icmp .ge 145, 3, (163, 0, 0, 0, 0)), (.aload_n 0, 1, (0, 0, 0, 0, 0)), (.getfield 71, 3, (12, 24, 2055, 0, 0)), (.iload_n 1, 1, (1, 0, 0, 0, 0)), (.iaload, 1, (0, 0, 0, 0, 0))]
theorem o_MT_findMoves_15 : jokL "ChessHouseModel$Texts" lw_tbl jcl jtb 6 false prog_18_method_21_code 15 k_MT_findMoves_15 = true := jok_sub oo_MT_findMoves_0 10 7 rfl rfl
def k_MT_findMoves_30 : List jI := [(.aload_n 0, 1, (0, 0, 0, 0, 0)), (.getfield 122, 3, (12, 25, 2057, 0, 0)), (.if_icmp .ne 129, 3, (163, 0, 0, 0, 0)), (.aload_n 0, 1, (0, 0, 0, 0, 0)), (.iload_n 1, 1, (1, 0, 0, 0, 0)), (.iload_n 2, 1, (2, 0, 0, 0, 0))]
theorem o_MT_findMoves_30 : jokL "ChessHouseModel$Texts" lw_tbl jcl jtb 6 false prog_18_method_21_code 30 k_MT_findMoves_30 = true := jok_sub oo_MT_findMoves_0 18 6 rfl rfl
def k_MT_findMoves_43 : List jI := [(.ifCond .eq 114, 3, (157, 0, 0, 0, 0)), (.aload_n 0, 1, (0, 0, 0, 0, 0)), (.getfield 71, 3, (12, 24, 2055, 0, 0)), (.iload_n 1, 1, (1, 0, 0, 0, 0)), (.iaload, 1, (0, 0, 0, 0, 0))]
theorem o_MT_findMoves_43 : jokL "ChessHouseModel$Texts" lw_tbl jcl jtb 6 false prog_18_method_21_code 43 k_MT_findMoves_43 = true := jok_sub oo_MT_findMoves_0 25 5 rfl rfl
def k_MT_findMoves_55 : List jI := [(.iconst 1, 1, (0, 0, 0, 1, 0)), (.if_icmp .ne 19, 3, (75, 0, 0, 0, 0)), (.iload_n 2, 1, (2, 0, 0, 0, 0)), (.bipush 8, 2, (0, 0, 0, 8, 0)), (.if_icmp .lt 9, 3, (71, 0, 0, 0, 0)), (.iload_n 2, 1, (2, 0, 0, 0, 0)), (.bipush 55, 2, (0, 0, 0, 55, 0)), (.if_icmp .le 7, 3, (75, 0, 0, 0, 0))]
theorem o_MT_findMoves_55 : jokL "ChessHouseModel$Texts" lw_tbl jcl jtb 6 false prog_18_method_21_code 55 k_MT_findMoves_55 = true := jok_sub oo_MT_findMoves_0 31 8 rfl rfl
def k_MT_findMoves_71 : List jI := [(.iconst 1, 1, (0, 0, 0, 1, 0)), (.goto 4, 3, (76, 0, 0, 0, 0))]
theorem o_MT_findMoves_71 : jokL "ChessHouseModel$Texts" lw_tbl jcl jtb 6 false prog_18_method_21_code 71 k_MT_findMoves_71 = true := jok_sub oo_MT_findMoves_0 39 2 rfl rfl
def k_MT_findMoves_75 : List jI := [(.iconst 0, 1, (0, 0, 0, 0, 0))]
theorem o_MT_findMoves_75 : jokL "ChessHouseModel$Texts" lw_tbl jcl jtb 6 false prog_18_method_21_code 75 k_MT_findMoves_75 = true := jok_sub oo_MT_findMoves_0 41 1 rfl rfl
def k_MT_findMoves_76 : List jI := [(.istore_n 3, 1, (3, 0, 0, 0, 0)), (.aload_n 0, 1, (0, 0, 0, 0, 0)), (.iload_n 1, 1, (1, 0, 0, 0, 0)), (.bipush 64, 2, (0, 0, 0, 64, 0)), (.iload_n 2, 1, (2, 0, 0, 0, 0)), (.imul, 1, (0, 0, 0, 0, 0)), (.iadd, 1, (0, 0, 0, 0, 0))]
theorem o_MT_findMoves_76 : jokL "ChessHouseModel$Texts" lw_tbl jcl jtb 6 false prog_18_method_21_code 76 k_MT_findMoves_76 = true := jok_sub oo_MT_findMoves_0 42 7 rfl rfl
def k_MT_findMoves_87 : List jI := [(.istore 4, 2, (4, 0, 0, 0, 0)), (.iload_n 3, 1, (3, 0, 0, 0, 0)), (.ifCond .eq 7, 3, (97, 0, 0, 0, 0)), (.iconst 2, 1, (0, 0, 0, 2, 0)), (.goto 4, 3, (98, 0, 0, 0, 0))]
theorem o_MT_findMoves_87 : jokL "ChessHouseModel$Texts" lw_tbl jcl jtb 6 false prog_18_method_21_code 87 k_MT_findMoves_87 = true := jok_sub oo_MT_findMoves_0 50 5 rfl rfl
def k_MT_findMoves_97 : List jI := [(.iconst 0, 1, (0, 0, 0, 0, 0))]
theorem o_MT_findMoves_97 : jokL "ChessHouseModel$Texts" lw_tbl jcl jtb 6 false prog_18_method_21_code 97 k_MT_findMoves_97 = true := jok_sub oo_MT_findMoves_0 55 1 rfl rfl
def k_MT_findMoves_98 : List jI := [(.istore 5, 2, (5, 0, 0, 0, 0))]
theorem o_MT_findMoves_98 : jokL "ChessHouseModel$Texts" lw_tbl jcl jtb 6 false prog_18_method_21_code 98 k_MT_findMoves_98 = true := jok_sub oo_MT_findMoves_0 56 1 rfl rfl
def k_MT_findMoves_100 : List jI := [(.iload 4, 2, (4, 0, 0, 0, 0)), (.ifCond .eq 55, 3, (157, 0, 0, 0, 0)), (.iload 5, 2, (5, 0, 0, 0, 0)), (.iload_n 3, 1, (3, 0, 0, 0, 0)), (.ifCond .eq 7, 3, (115, 0, 0, 0, 0)), (.iconst 5, 1, (0, 0, 0, 5, 0)), (.goto 4, 3, (116, 0, 0, 0, 0))]
theorem o_MT_findMoves_100 : jokL "ChessHouseModel$Texts" lw_tbl jcl jtb 6 false prog_18_method_21_code 100 k_MT_findMoves_100 = true := jok_sub oo_MT_findMoves_0 57 7 rfl rfl
def k_MT_findMoves_115 : List jI := [(.iconst 0, 1, (0, 0, 0, 0, 0))]
theorem o_MT_findMoves_115 : jokL "ChessHouseModel$Texts" lw_tbl jcl jtb 6 false prog_18_method_21_code 115 k_MT_findMoves_115 = true := jok_sub oo_MT_findMoves_0 64 1 rfl rfl
def k_MT_findMoves_116 : List jI := [(.if_icmp .gt 41, 3, (157, 0, 0, 0, 0)), (.aload_n 0, 1, (0, 0, 0, 0, 0)), (.getfield 80, 3, (12, 32, 2069, 0, 0)), (.aload_n 0, 1, (0, 0, 0, 0, 0)), (.getfield 171, 3, (12, 33, 2071, 0, 0)), (.iload_n 1, 1, (1, 0, 0, 0, 0)), (.bipush 64, 2, (0, 0, 0, 64, 0)), (.iload_n 2, 1, (2, 0, 0, 0, 0)), (.imul, 1, (0, 0, 0, 0, 0)), (.iadd, 1, (0, 0, 0, 0, 0)), (.sipush 4096, 3, (0, 0, 0, 4096, 0)), (.iload 5, 2, (5, 0, 0, 0, 0)), (.imul, 1, (0, 0, 0, 0, 0)), (.iadd, 1, (0, 0, 0, 0, 0)), (.iastore, 1, (0, 0, 0, 0, 0)), (.aload_n 0, 1, (0, 0, 0, 0, 0)), (.dup, 1, (0, 0, 0, 0, 0)), (.getfield 171, 3, (12, 33, 2071, 0, 0)), (.iconst 1, 1, (0, 0, 0, 1, 0)), (.iadd, 1, (0, 0, 0, 0, 0)), (.putfield 171, 3, (12, 33, 2071, 0, 0)), (.iinc 5 1, 3, (0, 0, 0, 1, 0)), (.goto (-54), 3, (100, 0, 0, 0, 0))]
theorem o_MT_findMoves_116 : jokL "ChessHouseModel$Texts" lw_tbl jcl jtb 6 false prog_18_method_21_code 116 k_MT_findMoves_116 = true := jok_sub oo_MT_findMoves_0 65 23 rfl rfl
def k_MT_findMoves_157 : List jI := [(.iinc 2 1, 3, (0, 0, 0, 1, 0)), (.goto (-145), 3, (15, 0, 0, 0, 0))]
theorem o_MT_findMoves_157 : jokL "ChessHouseModel$Texts" lw_tbl jcl jtb 6 false prog_18_method_21_code 157 k_MT_findMoves_157 = true := jok_sub oo_MT_findMoves_0 88 2 rfl rfl
def k_MT_findMoves_163 : List jI := [(.iinc 1 1, 3, (0, 0, 0, 1, 0)), (.goto (-159), 3, (7, 0, 0, 0, 0))]
theorem o_MT_findMoves_163 : jokL "ChessHouseModel$Texts" lw_tbl jcl jtb 6 false prog_18_method_21_code 163 k_MT_findMoves_163 = true := jok_sub oo_MT_findMoves_0 90 2 rfl rfl
theorem d_MT_findMoves_27 : decode prog_18_method_21_code 27 = .ok (.invokestatic 162, 3) := by decide +kernel
theorem q_MT_findMoves_27 : jlm lw_tbl 1963 "ChessHouseModel$Texts" 162 ⟨"ChessHouseModel$Texts", "sideOf", "(I)I"⟩ = true := by decide +kernel
theorem d_MT_findMoves_40 : decode prog_18_method_21_code 40 = .ok (.invokevirtual 174, 3) := by decide +kernel
theorem q_MT_findMoves_40 : jlm lw_tbl 1966 "ChessHouseModel$Texts" 174 ⟨"ChessHouseModel$Texts", "goes", "(II)Z"⟩ = true := by decide +kernel
theorem d_MT_findMoves_52 : decode prog_18_method_21_code 52 = .ok (.invokestatic 137, 3) := by decide +kernel
theorem q_MT_findMoves_52 : jlm lw_tbl 1941 "ChessHouseModel$Texts" 137 ⟨"ChessHouseModel$Texts", "kind", "(I)I"⟩ = true := by decide +kernel
theorem d_MT_findMoves_84 : decode prog_18_method_21_code 84 = .ok (.invokevirtual 177, 3) := by decide +kernel
theorem q_MT_findMoves_84 : jlm lw_tbl 1990 "ChessHouseModel$Texts" 177 ⟨"ChessHouseModel$Texts", "isSafe", "(I)Z"⟩ = true := by decide +kernel
theorem d_MT_findMoves_169 : decode prog_18_method_21_code 169 = .ok (.return_, 1) := by decide +kernel
def y_MT_clearNode : jY := (⟨"ChessHouseModel$Texts", "clearNode", "(I)V"⟩, prog_18_method_23_code, 2, none)
theorem m_MT_clearNode : jmth lw_tbl y_MT_clearNode 1 := ⟨jTA_in (wi := 1924) (by decide +kernel) rfl, jTA_in (wi := 315) (by decide +kernel) rfl, by decide, by decide, by decide +kernel⟩
theorem i_MT_clearNode : Jvm.Cond.instanceMethod y_MT_clearNode.1 ∈ jTA lw_tbl := jTA_in (wi := 1923) (by decide +kernel) rfl
theorem e_MT_clearNode : Jvm.Cond.selects y_MT_clearNode.1.cls y_MT_clearNode.1 y_MT_clearNode.1 ∈ jTA lw_tbl := jTA_in (wi := 107) (by decide +kernel) rfl
def kk_MT_clearNode_0 : List jI := [(.aload_n 0, 1, (0, 0, 0, 0, 0)), (.getfield 28, 3, (12, 10, 2029, 0, 0)), (.iload_n 1, 1, (1, 0, 0, 0, 0)), (.iconst (-1), 1, (0, 0, 0, (-1), 0)), (.iastore, 1, (0, 0, 0, 0, 0)), (.aload_n 0, 1, (0, 0, 0, 0, 0)), (.getfield 31, 3, (12, 11, 2031, 0, 0)), (.iload_n 1, 1, (1, 0, 0, 0, 0)), (.iconst (-1), 1, (0, 0, 0, (-1), 0)), (.iastore, 1, (0, 0, 0, 0, 0)), (.aload_n 0, 1, (0, 0, 0, 0, 0)), (.getfield 34, 3, (12, 12, 2033, 0, 0)), (.iload_n 1, 1, (1, 0, 0, 0, 0)), (.iconst 0, 1, (0, 0, 0, 0, 0)), (.iastore, 1, (0, 0, 0, 0, 0)), (.aload_n 0, 1, (0, 0, 0, 0, 0)), (.getfield 40, 3, (12, 14, 2035, 0, 0)), (.iload_n 1, 1, (1, 0, 0, 0, 0)), (.iconst 0, 1, (0, 0, 0, 0, 0)), (.iastore, 1, (0, 0, 0, 0, 0)), (.return_, 1, (0, 0, 0, 0, 0))]
theorem oo_MT_clearNode_0 : jokL "ChessHouseModel$Texts" lw_tbl jcl jtb 2 false prog_18_method_23_code 0 kk_MT_clearNode_0 = true := by decide +kernel
def k_MT_clearNode_0 : List jI := [(.aload_n 0, 1, (0, 0, 0, 0, 0)), (.getfield 28, 3, (12, 10, 2029, 0, 0)), (.iload_n 1, 1, (1, 0, 0, 0, 0)), (.iconst (-1), 1, (0, 0, 0, (-1), 0)), (.iastore, 1, (0, 0, 0, 0, 0)), (.aload_n 0, 1, (0, 0, 0, 0, 0)), (.getfield 31, 3, (12, 11, 2031, 0, 0)), (.iload_n 1, 1, (1, 0, 0, 0, 0)), (.iconst (-1), 1, (0, 0, 0, (-1), 0)), (.iastore, 1, (0, 0, 0, 0, 0)), (.aload_n 0, 1, (0, 0, 0, 0, 0)), (.getfield 34, 3, (12, 12, 2033, 0, 0)), (.iload_n 1, 1, (1, 0, 0, 0, 0)), (.iconst 0, 1, (0, 0, 0, 0, 0)), (.iastore, 1, (0, 0, 0, 0, 0)), (.aload_n 0, 1, (0, 0, 0, 0, 0)), (.getfield 40, 3, (12, 14, 2035, 0, 0)), (.iload_n 1, 1, (1, 0, 0, 0, 0)), (.iconst 0, 1, (0, 0, 0, 0, 0)), (.iastore, 1, (0, 0, 0, 0, 0))]
theorem o_MT_clearNode_0 : jokL "ChessHouseModel$Texts" lw_tbl jcl jtb 2 false prog_18_method_23_code 0 k_MT_clearNode_0 = true := jok_sub oo_MT_clearNode_0 0 20 rfl rfl
theorem d_MT_clearNode_28 : decode prog_18_method_23_code 28 = .ok (.return_, 1) := by decide +kernel
def y_MT_clearGame : jY := (⟨"ChessHouseModel$Texts", "clearGame", "(I)V"⟩, prog_18_method_22_code, 2, none)
theorem m_MT_clearGame : jmth lw_tbl y_MT_clearGame 1 := ⟨jTA_in (wi := 1920) (by decide +kernel) rfl, jTA_in (wi := 315) (by decide +kernel) rfl, by decide, by decide, by decide +kernel⟩
theorem i_MT_clearGame : Jvm.Cond.instanceMethod y_MT_clearGame.1 ∈ jTA lw_tbl := jTA_in (wi := 1919) (by decide +kernel) rfl
theorem e_MT_clearGame : Jvm.Cond.selects y_MT_clearGame.1.cls y_MT_clearGame.1 y_MT_clearGame.1 ∈ jTA lw_tbl := jTA_in (wi := 106) (by decide +kernel) rfl
def kk_MT_clearGame_0 : List jI := [(.aload_n 0, 1, (0, 0, 0, 0, 0)), (.getfield 18, 3, (12, 7, 2023, 0, 0)), (.iload_n 1, 1, (1, 0, 0, 0, 0)), (.iconst 0, 1, (0, 0, 0, 0, 0)), (.iastore, 1, (0, 0, 0, 0, 0)), (.aload_n 0, 1, (0, 0, 0, 0, 0)), (.getfield 53, 3, (12, 18, 2043, 0, 0)), (.iload_n 1, 1, (1, 0, 0, 0, 0)), (.iconst 0, 1, (0, 0, 0, 0, 0)), (.iastore, 1, (0, 0, 0, 0, 0)), (.aload_n 0, 1, (0, 0, 0, 0, 0)), (.getfield 68, 3, (12, 23, 2053, 0, 0)), (.iload_n 1, 1, (1, 0, 0, 0, 0)), (.iconst 0, 1, (0, 0, 0, 0, 0)), (.iastore, 1, (0, 0, 0, 0, 0)), (.aload_n 0, 1, (0, 0, 0, 0, 0)), (.sipush 301, 3, (0, 0, 0, 301, 0)), (.iload_n 1, 1, (1, 0, 0, 0, 0)), (.imul, 1, (0, 0, 0, 0, 0)), (.invokevirtual 180, 3, (0, 0, 0, 0, 0)), (.aload_n 0, 1, (0, 0, 0, 0, 0)), (.getfield 22, 3, (12, 8, 2025, 0, 0)), (.sipush 301, 3, (0, 0, 0, 301, 0)), (.iload_n 1, 1, (1, 0, 0, 0, 0)), (.imul, 1, (0, 0, 0, 0, 0)), (.iconst (-1), 1, (0, 0, 0, (-1), 0)), (.iastore, 1, (0, 0, 0, 0, 0)), (.aload_n 0, 1, (0, 0, 0, 0, 0)), (.getfield 25, 3, (12, 9, 2027, 0, 0)), (.sipush 301, 3, (0, 0, 0, 301, 0)), (.iload_n 1, 1, (1, 0, 0, 0, 0)), (.imul, 1, (0, 0, 0, 0, 0)), (.iconst (-1), 1, (0, 0, 0, (-1), 0)), (.iastore, 1, (0, 0, 0, 0, 0)), (.return_, 1, (0, 0, 0, 0, 0))]
theorem oo_MT_clearGame_0 : jokL "ChessHouseModel$Texts" lw_tbl jcl jtb 2 false prog_18_method_22_code 0 kk_MT_clearGame_0 = true := by decide +kernel
def k_MT_clearGame_0 : List jI := [(.aload_n 0, 1, (0, 0, 0, 0, 0)), (.getfield 18, 3, (12, 7, 2023, 0, 0)), (.iload_n 1, 1, (1, 0, 0, 0, 0)), (.iconst 0, 1, (0, 0, 0, 0, 0)), (.iastore, 1, (0, 0, 0, 0, 0)), (.aload_n 0, 1, (0, 0, 0, 0, 0)), (.getfield 53, 3, (12, 18, 2043, 0, 0)), (.iload_n 1, 1, (1, 0, 0, 0, 0)), (.iconst 0, 1, (0, 0, 0, 0, 0)), (.iastore, 1, (0, 0, 0, 0, 0)), (.aload_n 0, 1, (0, 0, 0, 0, 0)), (.getfield 68, 3, (12, 23, 2053, 0, 0)), (.iload_n 1, 1, (1, 0, 0, 0, 0)), (.iconst 0, 1, (0, 0, 0, 0, 0)), (.iastore, 1, (0, 0, 0, 0, 0)), (.aload_n 0, 1, (0, 0, 0, 0, 0)), (.sipush 301, 3, (0, 0, 0, 301, 0)), (.iload_n 1, 1, (1, 0, 0, 0, 0)), (.imul, 1, (0, 0, 0, 0, 0))]
theorem o_MT_clearGame_0 : jokL "ChessHouseModel$Texts" lw_tbl jcl jtb 2 false prog_18_method_22_code 0 k_MT_clearGame_0 = true := jok_sub oo_MT_clearGame_0 0 19 rfl rfl
def k_MT_clearGame_30 : List jI := [(.aload_n 0, 1, (0, 0, 0, 0, 0)), (.getfield 22, 3, (12, 8, 2025, 0, 0)), (.sipush 301, 3, (0, 0, 0, 301, 0)), (.iload_n 1, 1, (1, 0, 0, 0, 0)), (.imul, 1, (0, 0, 0, 0, 0)), (.iconst (-1), 1, (0, 0, 0, (-1), 0)), (.iastore, 1, (0, 0, 0, 0, 0)), (.aload_n 0, 1, (0, 0, 0, 0, 0)), (.getfield 25, 3, (12, 9, 2027, 0, 0)), (.sipush 301, 3, (0, 0, 0, 301, 0)), (.iload_n 1, 1, (1, 0, 0, 0, 0)), (.imul, 1, (0, 0, 0, 0, 0)), (.iconst (-1), 1, (0, 0, 0, (-1), 0)), (.iastore, 1, (0, 0, 0, 0, 0))]
theorem o_MT_clearGame_30 : jokL "ChessHouseModel$Texts" lw_tbl jcl jtb 2 false prog_18_method_22_code 30 k_MT_clearGame_30 = true := jok_sub oo_MT_clearGame_0 20 14 rfl rfl
theorem d_MT_clearGame_27 : decode prog_18_method_22_code 27 = .ok (.invokevirtual 180, 3) := by decide +kernel
theorem q_MT_clearGame_27 : jlm lw_tbl 1921 "ChessHouseModel$Texts" 180 ⟨"ChessHouseModel$Texts", "clearNode", "(I)V"⟩ = true := by decide +kernel
theorem d_MT_clearGame_52 : decode prog_18_method_22_code 52 = .ok (.return_, 1) := by decide +kernel
def y_MT_start : jY := (⟨"ChessHouseModel$Texts", "start", "(I)V"⟩, prog_18_method_25_code, 3, none)
theorem m_MT_start : jmth lw_tbl y_MT_start 1 := ⟨jTA_in (wi := 1932) (by decide +kernel) rfl, jTA_in (wi := 315) (by decide +kernel) rfl, by decide, by decide, by decide +kernel⟩
theorem i_MT_start : Jvm.Cond.instanceMethod y_MT_start.1 ∈ jTA lw_tbl := jTA_in (wi := 1931) (by decide +kernel) rfl
theorem e_MT_start : Jvm.Cond.selects y_MT_start.1.cls y_MT_start.1 y_MT_start.1 ∈ jTA lw_tbl := jTA_in (wi := 109) (by decide +kernel) rfl
def kk_MT_start_0 : List jI := [(.iconst 0, 1, (0, 0, 0, 0, 0)), (.istore_n 2, 1, (2, 0, 0, 0, 0)), (.iload_n 2, 1, (2, 0, 0, 0, 0)), (.bipush 64, 2, (0, 0, 0, 64, 0)), (.if_icmp .ge 26, 3, (31, 0, 0, 0, 0)), (.aload_n 0, 1, (0, 0, 0, 0, 0)), (.getfield 47, 3, (12, 16, 2039, 0, 0)), (.bipush 64, 2, (0, 0, 0, 64, 0)), (.iload_n 1, 1, (1, 0, 0, 0, 0)), (.imul, 1, (0, 0, 0, 0, 0)), (.iload_n 2, 1, (2, 0, 0, 0, 0)), (.iadd, 1, (0, 0, 0, 0, 0)), (.aload_n 0, 1, (0, 0, 0, 0, 0)), (.getfield 71, 3, (12, 24, 2055, 0, 0)), (.iload_n 2, 1, (2, 0, 0, 0, 0)), (.iaload, 1, (0, 0, 0, 0, 0)), (.iastore, 1, (0, 0, 0, 0, 0)), (.iinc 2 1, 3, (0, 0, 0, 1, 0)), (.goto (-26), 3, (2, 0, 0, 0, 0)), (.aload_n 0, 1, (0, 0, 0, 0, 0)), (.getfield 50, 3, (12, 17, 2041, 0, 0)), (.iconst 5, 1, (0, 0, 0, 5, 0)), (.iload_n 1, 1, (1, 0, 0, 0, 0)), (.imul, 1, (0, 0, 0, 0, 0)), (.aload_n 0, 1, (0, 0, 0, 0, 0)), (.getfield 122, 3, (12, 25, 2057, 0, 0)), (.iastore, 1, (0, 0, 0, 0, 0)), (.aload_n 0, 1, (0, 0, 0, 0, 0)), (.getfield 50, 3, (12, 17, 2041, 0, 0)), (.iconst 5, 1, (0, 0, 0, 5, 0)), (.iload_n 1, 1, (1, 0, 0, 0, 0)), (.imul, 1, (0, 0, 0, 0, 0)), (.iconst 1, 1, (0, 0, 0, 1, 0)), (.iadd, 1, (0, 0, 0, 0, 0)), (.aload_n 0, 1, (0, 0, 0, 0, 0)), (.getfield 125, 3, (12, 26, 2059, 0, 0)), (.iastore, 1, (0, 0, 0, 0, 0)), (.aload_n 0, 1, (0, 0, 0, 0, 0)), (.getfield 50, 3, (12, 17, 2041, 0, 0)), (.iconst 5, 1, (0, 0, 0, 5, 0)), (.iload_n 1, 1, (1, 0, 0, 0, 0)), (.imul, 1, (0, 0, 0, 0, 0)), (.iconst 2, 1, (0, 0, 0, 2, 0)), (.iadd, 1, (0, 0, 0, 0, 0)), (.aload_n 0, 1, (0, 0, 0, 0, 0)), (.getfield 128, 3, (12, 27, 2061, 0, 0)), (.iastore, 1, (0, 0, 0, 0, 0)), (.aload_n 0, 1, (0, 0, 0, 0, 0)), (.getfield 50, 3, (12, 17, 2041, 0, 0)), (.iconst 5, 1, (0, 0, 0, 5, 0)), (.iload_n 1, 1, (1, 0, 0, 0, 0)), (.imul, 1, (0, 0, 0, 0, 0)), (.iconst 3, 1, (0, 0, 0, 3, 0)), (.iadd, 1, (0, 0, 0, 0, 0)), (.aload_n 0, 1, (0, 0, 0, 0, 0)), (.getfield 131, 3, (12, 28, 2063, 0, 0)), (.iastore, 1, (0, 0, 0, 0, 0)), (.aload_n 0, 1, (0, 0, 0, 0, 0)), (.getfield 50, 3, (12, 17, 2041, 0, 0)), (.iconst 5, 1, (0, 0, 0, 5, 0)), (.iload_n 1, 1, (1, 0, 0, 0, 0)), (.imul, 1, (0, 0, 0, 0, 0)), (.iconst 4, 1, (0, 0, 0, 4, 0)), (.iadd, 1, (0, 0, 0, 0, 0)), (.aload_n 0, 1, (0, 0, 0, 0, 0)), (.getfield 134, 3, (12, 29, 2065, 0, 0)), (.iastore, 1, (0, 0, 0, 0, 0)), (.return_, 1, (0, 0, 0, 0, 0))]
theorem oo_MT_start_0 : jokL "ChessHouseModel$Texts" lw_tbl jcl jtb 3 false prog_18_method_25_code 0 kk_MT_start_0 = true := by decide +kernel
def k_MT_start_0 : List jI := [(.iconst 0, 1, (0, 0, 0, 0, 0)), (.istore_n 2, 1, (2, 0, 0, 0, 0))]
theorem o_MT_start_0 : jokL "ChessHouseModel$Texts" lw_tbl jcl jtb 3 false prog_18_method_25_code 0 k_MT_start_0 = true := jok_sub oo_MT_start_0 0 2 rfl rfl
def k_MT_start_2 : List jI := [(.iload_n 2, 1, (2, 0, 0, 0, 0)), (.bipush 64, 2, (0, 0, 0, 64, 0)), (.if_icmp .ge 26, 3, (31, 0, 0, 0, 0)), (.aload_n 0, 1, (0, 0, 0, 0, 0)), (.getfield 47, 3, (12, 16, 2039, 0, 0)), (.bipush 64, 2, (0, 0, 0, 64, 0)), (.iload_n 1, 1, (1, 0, 0, 0, 0)), (.imul, 1, (0, 0, 0, 0, 0)), (.iload_n 2, 1, (2, 0, 0, 0, 0)), (.iadd, 1, (0, 0, 0, 0, 0)), (.aload_n 0, 1, (0, 0, 0, 0, 0)), (.getfield 71, 3, (12, 24, 2055, 0, 0)), (.iload_n 2, 1, (2, 0, 0, 0, 0)), (.iaload, 1, (0, 0, 0, 0, 0)), (.iastore, 1, (0, 0, 0, 0, 0)), (.iinc 2 1, 3, (0, 0, 0, 1, 0)), (.goto (-26), 3, (2, 0, 0, 0, 0))]
theorem o_MT_start_2 : jokL "ChessHouseModel$Texts" lw_tbl jcl jtb 3 false prog_18_method_25_code 2 k_MT_start_2 = true := jok_sub oo_MT_start_0 2 17 rfl rfl
def k_MT_start_31 : List jI := [(.aload_n 0, 1, (0, 0, 0, 0, 0)), (.getfield 50, 3, (12, 17, 2041, 0, 0)), (.iconst 5, 1, (0, 0, 0, 5, 0)), (.iload_n 1, 1, (1, 0, 0, 0, 0)), (.imul, 1, (0, 0, 0, 0, 0)), (.aload_n 0, 1, (0, 0, 0, 0, 0)), (.getfield 122, 3, (12, 25, 2057, 0, 0)), (.iastore, 1, (0, 0, 0, 0, 0)), (.aload_n 0, 1, (0, 0, 0, 0, 0)), (.getfield 50, 3, (12, 17, 2041, 0, 0)), (.iconst 5, 1, (0, 0, 0, 5, 0)), (.iload_n 1, 1, (1, 0, 0, 0, 0)), (.imul, 1, (0, 0, 0, 0, 0)), (.iconst 1, 1, (0, 0, 0, 1, 0)), (.iadd, 1, (0, 0, 0, 0, 0)), (.aload_n 0, 1, (0, 0, 0, 0, 0)), (.getfield 125, 3, (12, 26, 2059, 0, 0)), (.iastore, 1, (0, 0, 0, 0, 0)), (.aload_n 0, 1, (0, 0, 0, 0, 0)), (.getfield 50, 3, (12, 17, 2041, 0, 0)), (.iconst 5, 1, (0, 0, 0, 5, 0)), (.iload_n 1, 1, (1, 0, 0, 0, 0)), (.imul, 1, (0, 0, 0, 0, 0)), (.iconst 2, 1, (0, 0, 0, 2, 0)), (.iadd, 1, (0, 0, 0, 0, 0)), (.aload_n 0, 1, (0, 0, 0, 0, 0)), (.getfield 128, 3, (12, 27, 2061, 0, 0)), (.iastore, 1, (0, 0, 0, 0, 0)), (.aload_n 0, 1, (0, 0, 0, 0, 0)), (.getfield 50, 3, (12, 17, 2041, 0, 0)), (.iconst 5, 1, (0, 0, 0, 5, 0)), (.iload_n 1, 1, (1, 0, 0, 0, 0)), (.imul, 1, (0, 0, 0, 0, 0)), (.iconst 3, 1, (0, 0, 0, 3, 0)), (.iadd, 1, (0, 0, 0, 0, 0)), (.aload_n 0, 1, (0, 0, 0, 0, 0)), (.getfield 131, 3, (12, 28, 2063, 0, 0)), (.iastore, 1, (0, 0, 0, 0, 0)), (.aload_n 0, 1, (0, 0, 0, 0, 0)), (.getfield 50, 3, (12, 17, 2041, 0, 0)), (.iconst 5, 1, (0, 0, 0, 5, 0)), (.iload_n 1, 1, (1, 0, 0, 0, 0)), (.imul, 1, (0, 0, 0, 0, 0)), (.iconst 4, 1, (0, 0, 0, 4, 0)), (.iadd, 1, (0, 0, 0, 0, 0)), (.aload_n 0, 1, (0, 0, 0, 0, 0)), (.getfield 134, 3, (12, 29, 2065, 0, 0)), (.iastore, 1, (0, 0, 0, 0, 0))]
theorem o_MT_start_31 : jokL "ChessHouseModel$Texts" lw_tbl jcl jtb 3 false prog_18_method_25_code 31 k_MT_start_31 = true := jok_sub oo_MT_start_0 19 48 rfl rfl
theorem d_MT_start_99 : decode prog_18_method_25_code 99 = .ok (.return_, 1) := by decide +kernel
def y_MT_usual : jY := (⟨"ChessHouseModel$Texts", "usual", "(I)V"⟩, prog_18_method_24_code, 4, none)
theorem m_MT_usual : jmth lw_tbl y_MT_usual 1 := ⟨jTA_in (wi := 1928) (by decide +kernel) rfl, jTA_in (wi := 315) (by decide +kernel) rfl, by decide, by decide, by decide +kernel⟩
theorem i_MT_usual : Jvm.Cond.instanceMethod y_MT_usual.1 ∈ jTA lw_tbl := jTA_in (wi := 1927) (by decide +kernel) rfl
theorem e_MT_usual : Jvm.Cond.selects y_MT_usual.1.cls y_MT_usual.1 y_MT_usual.1 ∈ jTA lw_tbl := jTA_in (wi := 108) (by decide +kernel) rfl
def kk_MT_usual_0 : List jI := [(.iconst 0, 1, (0, 0, 0, 0, 0)), (.istore_n 2, 1, (2, 0, 0, 0, 0)), (.iload_n 2, 1, (2, 0, 0, 0, 0)), (.bipush 64, 2, (0, 0, 0, 64, 0)), (.if_icmp .ge 16, 3, (21, 0, 0, 0, 0)), (.aload_n 0, 1, (0, 0, 0, 0, 0)), (.getfield 71, 3, (12, 24, 2055, 0, 0)), (.iload_n 2, 1, (2, 0, 0, 0, 0)), (.iconst 0, 1, (0, 0, 0, 0, 0)), (.iastore, 1, (0, 0, 0, 0, 0)), (.iinc 2 1, 3, (0, 0, 0, 1, 0)), (.goto (-16), 3, (2, 0, 0, 0, 0)), (.iconst 0, 1, (0, 0, 0, 0, 0)), (.istore_n 2, 1, (2, 0, 0, 0, 0)), (.iload_n 2, 1, (2, 0, 0, 0, 0)), (.bipush 8, 2, (0, 0, 0, 8, 0)), (.if_icmp .ge 105, 3, (131, 0, 0, 0, 0)), (.iload_n 2, 1, (2, 0, 0, 0, 0)), (.ifCond .eq 9, 3, (39, 0, 0, 0, 0)), (.iload_n 2, 1, (2, 0, 0, 0, 0)), (.bipush 7, 2, (0, 0, 0, 7, 0)), (.if_icmp .ne 7, 3, (43, 0, 0, 0, 0)), (.iconst 4, 1, (0, 0, 0, 4, 0)), (.goto 43, 3, (83, 0, 0, 0, 0)), (.iload_n 2, 1, (2, 0, 0, 0, 0)), (.iconst 1, 1, (0, 0, 0, 1, 0)), (.if_icmp .eq 9, 3, (54, 0, 0, 0, 0)), (.iload_n 2, 1, (2, 0, 0, 0, 0)), (.bipush 6, 2, (0, 0, 0, 6, 0)), (.if_icmp .ne 7, 3, (58, 0, 0, 0, 0)), (.iconst 2, 1, (0, 0, 0, 2, 0)), (.goto 28, 3, (83, 0, 0, 0, 0)), (.iload_n 2, 1, (2, 0, 0, 0, 0)), (.iconst 2, 1, (0, 0, 0, 2, 0)), (.if_icmp .eq 8, 3, (68, 0, 0, 0, 0)), (.iload_n 2, 1, (2, 0, 0, 0, 0)), (.iconst 5, 1, (0, 0, 0, 5, 0)), (.if_icmp .ne 7, 3, (72, 0, 0, 0, 0)), (.iconst 3, 1, (0, 0, 0, 3, 0)), (.goto 14, 3, (83, 0, 0, 0, 0)), (.iload_n 2, 1, (2, 0, 0, 0, 0)), (.iconst 3, 1, (0, 0, 0, 3, 0)), (.if_icmp .ne 7, 3, (81, 0, 0, 0, 0)), (.iconst 5, 1, (0, 0, 0, 5, 0)), (.goto 5, 3, (83, 0, 0, 0, 0)), (.bipush 6, 2, (0, 0, 0, 6, 0)), (.istore_n 3, 1, (3, 0, 0, 0, 0)), (.aload_n 0, 1, (0, 0, 0, 0, 0)), (.getfield 71, 3, (12, 24, 2055, 0, 0)), (.iload_n 2, 1, (2, 0, 0, 0, 0)), (.iload_n 3, 1, (3, 0, 0, 0, 0)), (.iastore, 1, (0, 0, 0, 0, 0)), (.aload_n 0, 1, (0, 0, 0, 0, 0)), (.getfield 71, 3, (12, 24, 2055, 0, 0)), (.bipush 8, 2, (0, 0, 0, 8, 0)), (.iload_n 2, 1, (2, 0, 0, 0, 0)), (.iadd, 1, (0, 0, 0, 0, 0)), (.iconst 1, 1, (0, 0, 0, 1, 0)), (.iastore, 1, (0, 0, 0, 0, 0)), (.aload_n 0, 1, (0, 0, 0, 0, 0)), (.getfield 71, 3, (12, 24, 2055, 0, 0)), (.bipush 48, 2, (0, 0, 0, 48, 0)), (.iload_n 2, 1, (2, 0, 0, 0, 0)), (.iadd, 1, (0, 0, 0, 0, 0)), (.bipush 9, 2, (0, 0, 0, 9, 0)), (.iastore, 1, (0, 0, 0, 0, 0)), (.aload_n 0, 1, (0, 0, 0, 0, 0)), (.getfield 71, 3, (12, 24, 2055, 0, 0)), (.bipush 56, 2, (0, 0, 0, 56, 0)), (.iload_n 2, 1, (2, 0, 0, 0, 0)), (.iadd, 1, (0, 0, 0, 0, 0)), (.iload_n 3, 1, (3, 0, 0, 0, 0)), (.bipush 8, 2, (0, 0, 0, 8, 0)), (.iadd, 1, (0, 0, 0, 0, 0)), (.iastore, 1, (0, 0, 0, 0, 0)), (.iinc 2 1, 3, (0, 0, 0, 1, 0)), (.goto (-105), 3, (23, 0, 0, 0, 0)), (.aload_n 0, 1, (0, 0, 0, 0, 0)), (.iconst 0, 1, (0, 0, 0, 0, 0)), (.putfield 122, 3, (12, 25, 2057, 0, 0)), (.aload_n 0, 1, (0, 0, 0, 0, 0)), (.bipush 15, 2, (0, 0, 0, 15, 0)), (.putfield 125, 3, (12, 26, 2059, 0, 0)), (.aload_n 0, 1, (0, 0, 0, 0, 0)), (.iconst (-1), 1, (0, 0, 0, (-1), 0)), (.putfield 128, 3, (12, 27, 2061, 0, 0)), (.aload_n 0, 1, (0, 0, 0, 0, 0)), (.iconst 0, 1, (0, 0, 0, 0, 0)), (.putfield 131, 3, (12, 28, 2063, 0, 0)), (.aload_n 0, 1, (0, 0, 0, 0, 0)), (.iconst 1, 1, (0, 0, 0, 1, 0)), (.putfield 134, 3, (12, 29, 2065, 0, 0)), (.aload_n 0, 1, (0, 0, 0, 0, 0)), (.iload_n 1, 1, (1, 0, 0, 0, 0)), (.invokevirtual 183, 3, (0, 0, 0, 0, 0)), (.return_, 1, (0, 0, 0, 0, 0))]
theorem oo_MT_usual_0 : jokL "ChessHouseModel$Texts" lw_tbl jcl jtb 4 false prog_18_method_24_code 0 kk_MT_usual_0 = true := by decide +kernel
def k_MT_usual_0 : List jI := [(.iconst 0, 1, (0, 0, 0, 0, 0)), (.istore_n 2, 1, (2, 0, 0, 0, 0))]
theorem o_MT_usual_0 : jokL "ChessHouseModel$Texts" lw_tbl jcl jtb 4 false prog_18_method_24_code 0 k_MT_usual_0 = true := jok_sub oo_MT_usual_0 0 2 rfl rfl
def k_MT_usual_2 : List jI := [(.iload_n 2, 1, (2, 0, 0, 0, 0)), (.bipush 64, 2, (0, 0, 0, 64, 0)), (.if_icmp .ge 16, 3, (21, 0, 0, 0, 0)), (.aload_n 0, 1, (0, 0, 0, 0, 0)), (.getfield 71, 3, (12, 24, 2055, 0, 0)), (.iload_n 2, 1, (2, 0, 0, 0, 0)), (.iconst 0, 1, (0, 0, 0, 0, 0)), (.iastore, 1, (0, 0, 0, 0, 0)), (.iinc 2 1, 3, (0, 0, 0, 1, 0)), (.goto (-16), 3, (2, 0, 0, 0, 0))]
theorem o_MT_usual_2 : jokL "ChessHouseModel$Texts" lw_tbl jcl jtb 4 false prog_18_method_24_code 2 k_MT_usual_2 = true := jok_sub oo_MT_usual_0 2 10 rfl rfl
def k_MT_usual_21 : List jI := [(.iconst 0, 1, (0, 0, 0, 0, 0)), (.istore_n 2, 1, (2, 0, 0, 0, 0))]
theorem o_MT_usual_21 : jokL "ChessHouseModel$Texts" lw_tbl jcl jtb 4 false prog_18_method_24_code 21 k_MT_usual_21 = true := jok_sub oo_MT_usual_0 12 2 rfl rfl
def k_MT_usual_23 : List jI := [(.iload_n 2, 1, (2, 0, 0, 0, 0)), (.bipush 8, 2, (0, 0, 0, 8, 0)), (.if_icmp .ge 105, 3, (131, 0, 0, 0, 0)), (.iload_n 2, 1, (2, 0, 0, 0, 0)), (.ifCond .eq 9, 3, (39, 0, 0, 0, 0)), (.iload_n 2, 1, (2, 0, 0, 0, 0)), (.bipush 7, 2, (0, 0, 0, 7, 0)), (.if_icmp .ne 7, 3, (43, 0, 0, 0, 0))]
theorem o_MT_usual_23 : jokL "ChessHouseModel$Texts" lw_tbl jcl jtb 4 false prog_18_method_24_code 23 k_MT_usual_23 = true := jok_sub oo_MT_usual_0 14 8 rfl rfl
def k_MT_usual_39 : List jI := [(.iconst 4, 1, (0, 0, 0, 4, 0)), (.goto 43, 3, (83, 0, 0, 0, 0))]
theorem o_MT_usual_39 : jokL "ChessHouseModel$Texts" lw_tbl jcl jtb 4 false prog_18_method_24_code 39 k_MT_usual_39 = true := jok_sub oo_MT_usual_0 22 2 rfl rfl
def k_MT_usual_43 : List jI := [(.iload_n 2, 1, (2, 0, 0, 0, 0)), (.iconst 1, 1, (0, 0, 0, 1, 0)), (.if_icmp .eq 9, 3, (54, 0, 0, 0, 0)), (.iload_n 2, 1, (2, 0, 0, 0, 0)), (.bipush 6, 2, (0, 0, 0, 6, 0)), (.if_icmp .ne 7, 3, (58, 0, 0, 0, 0))]
theorem o_MT_usual_43 : jokL "ChessHouseModel$Texts" lw_tbl jcl jtb 4 false prog_18_method_24_code 43 k_MT_usual_43 = true := jok_sub oo_MT_usual_0 24 6 rfl rfl
def k_MT_usual_54 : List jI := [(.iconst 2, 1, (0, 0, 0, 2, 0)), (.goto 28, 3, (83, 0, 0, 0, 0))]
theorem o_MT_usual_54 : jokL "ChessHouseModel$Texts" lw_tbl jcl jtb 4 false prog_18_method_24_code 54 k_MT_usual_54 = true := jok_sub oo_MT_usual_0 30 2 rfl rfl
def k_MT_usual_58 : List jI := [(.iload_n 2, 1, (2, 0, 0, 0, 0)), (.iconst 2, 1, (0, 0, 0, 2, 0)), (.if_icmp .eq 8, 3, (68, 0, 0, 0, 0)), (.iload_n 2, 1, (2, 0, 0, 0, 0)), (.iconst 5, 1, (0, 0, 0, 5, 0)), (.if_icmp .ne 7, 3, (72, 0, 0, 0, 0))]
theorem o_MT_usual_58 : jokL "ChessHouseModel$Texts" lw_tbl jcl jtb 4 false prog_18_method_24_code 58 k_MT_usual_58 = true := jok_sub oo_MT_usual_0 32 6 rfl rfl
def k_MT_usual_68 : List jI := [(.iconst 3, 1, (0, 0, 0, 3, 0)), (.goto 14, 3, (83, 0, 0, 0, 0))]
theorem o_MT_usual_68 : jokL "ChessHouseModel$Texts" lw_tbl jcl jtb 4 false prog_18_method_24_code 68 k_MT_usual_68 = true := jok_sub oo_MT_usual_0 38 2 rfl rfl
def k_MT_usual_72 : List jI := [(.iload_n 2, 1, (2, 0, 0, 0, 0)), (.iconst 3, 1, (0, 0, 0, 3, 0)), (.if_icmp .ne 7, 3, (81, 0, 0, 0, 0)), (.iconst 5, 1, (0, 0, 0, 5, 0)), (.goto 5, 3, (83, 0, 0, 0, 0))]
theorem o_MT_usual_72 : jokL "ChessHouseModel$Texts" lw_tbl jcl jtb 4 false prog_18_method_24_code 72 k_MT_usual_72 = true := jok_sub oo_MT_usual_0 40 5 rfl rfl
def k_MT_usual_81 : List jI := [(.bipush 6, 2, (0, 0, 0, 6, 0))]
theorem o_MT_usual_81 : jokL "ChessHouseModel$Texts" lw_tbl jcl jtb 4 false prog_18_method_24_code 81 k_MT_usual_81 = true := jok_sub oo_MT_usual_0 45 1 rfl rfl
def k_MT_usual_83 : List jI := [(.istore_n 3, 1, (3, 0, 0, 0, 0)), (.aload_n 0, 1, (0, 0, 0, 0, 0)), (.getfield 71, 3, (12, 24, 2055, 0, 0)), (.iload_n 2, 1, (2, 0, 0, 0, 0)), (.iload_n 3, 1, (3, 0, 0, 0, 0)), (.iastore, 1, (0, 0, 0, 0, 0)), (.aload_n 0, 1, (0, 0, 0, 0, 0)), (.getfield 71, 3, (12, 24, 2055, 0, 0)), (.bipush 8, 2, (0, 0, 0, 8, 0)), (.iload_n 2, 1, (2, 0, 0, 0, 0)), (.iadd, 1, (0, 0, 0, 0, 0)), (.iconst 1, 1, (0, 0, 0, 1, 0)), (.iastore, 1, (0, 0, 0, 0, 0)), (.aload_n 0, 1, (0, 0, 0, 0, 0)), (.getfield 71, 3, (12, 24, 2055, 0, 0)), (.bipush 48, 2, (0, 0, 0, 48, 0)), (.iload_n 2, 1, (2, 0, 0, 0, 0)), (.iadd, 1, (0, 0, 0, 0, 0)), (.bipush 9, 2, (0, 0, 0, 9, 0)), (.iastore, 1, (0, 0, 0, 0, 0)), (.aload_n 0, 1, (0, 0, 0, 0, 0)), (.getfield 71, 3, (12, 24, 2055, 0, 0)), (.bipush 56, 2, (0, 0, 0, 56, 0)), (.iload_n 2, 1, (2, 0, 0, 0, 0)), (.iadd, 1, (0, 0, 0, 0, 0)), (.iload_n 3, 1, (3, 0, 0, 0, 0)), (.bipush 8, 2, (0, 0, 0, 8, 0)), (.iadd, 1, (0, 0, 0, 0, 0)), (.iastore, 1, (0, 0, 0, 0, 0)), (.iinc 2 1, 3, (0, 0, 0, 1, 0)), (.goto (-105), 3, (23, 0, 0, 0, 0))]
theorem o_MT_usual_83 : jokL "ChessHouseModel$Texts" lw_tbl jcl jtb 4 false prog_18_method_24_code 83 k_MT_usual_83 = true := jok_sub oo_MT_usual_0 46 31 rfl rfl
def k_MT_usual_131 : List jI := [(.aload_n 0, 1, (0, 0, 0, 0, 0)), (.iconst 0, 1, (0, 0, 0, 0, 0)), (.putfield 122, 3, (12, 25, 2057, 0, 0)), (.aload_n 0, 1, (0, 0, 0, 0, 0)), (.bipush 15, 2, (0, 0, 0, 15, 0)), (.putfield 125, 3, (12, 26, 2059, 0, 0)), (.aload_n 0, 1, (0, 0, 0, 0, 0)), (.iconst (-1), 1, (0, 0, 0, (-1), 0)), (.putfield 128, 3, (12, 27, 2061, 0, 0)), (.aload_n 0, 1, (0, 0, 0, 0, 0)), (.iconst 0, 1, (0, 0, 0, 0, 0)), (.putfield 131, 3, (12, 28, 2063, 0, 0)), (.aload_n 0, 1, (0, 0, 0, 0, 0)), (.iconst 1, 1, (0, 0, 0, 1, 0)), (.putfield 134, 3, (12, 29, 2065, 0, 0)), (.aload_n 0, 1, (0, 0, 0, 0, 0)), (.iload_n 1, 1, (1, 0, 0, 0, 0))]
theorem o_MT_usual_131 : jokL "ChessHouseModel$Texts" lw_tbl jcl jtb 4 false prog_18_method_24_code 131 k_MT_usual_131 = true := jok_sub oo_MT_usual_0 77 17 rfl rfl
theorem d_MT_usual_159 : decode prog_18_method_24_code 159 = .ok (.invokevirtual 183, 3) := by decide +kernel
theorem q_MT_usual_159 : jlm lw_tbl 1929 "ChessHouseModel$Texts" 183 ⟨"ChessHouseModel$Texts", "start", "(I)V"⟩ = true := by decide +kernel
theorem d_MT_usual_162 : decode prog_18_method_24_code 162 = .ok (.return_, 1) := by decide +kernel
def y_MT_place : jY := (⟨"ChessHouseModel$Texts", "place", "(II)V"⟩, prog_18_method_26_code, 5, none)
theorem m_MT_place : jmth lw_tbl y_MT_place 2 := ⟨jTA_in (wi := 1936) (by decide +kernel) rfl, jTA_in (wi := 315) (by decide +kernel) rfl, by decide, by decide, by decide +kernel⟩
theorem i_MT_place : Jvm.Cond.instanceMethod y_MT_place.1 ∈ jTA lw_tbl := jTA_in (wi := 1935) (by decide +kernel) rfl
theorem e_MT_place : Jvm.Cond.selects y_MT_place.1.cls y_MT_place.1 y_MT_place.1 ∈ jTA lw_tbl := jTA_in (wi := 110) (by decide +kernel) rfl
def kk_MT_place_0 : List jI := [(.iconst 0, 1, (0, 0, 0, 0, 0)), (.istore_n 3, 1, (3, 0, 0, 0, 0)), (.iload_n 2, 1, (2, 0, 0, 0, 0)), (.istore 4, 2, (4, 0, 0, 0, 0)), (.iload 4, 2, (4, 0, 0, 0, 0)), (.ifCond .le 32, 3, (39, 0, 0, 0, 0)), (.aload_n 0, 1, (0, 0, 0, 0, 0)), (.getfield 83, 3, (12, 34, 2073, 0, 0)), (.iload_n 3, 1, (3, 0, 0, 0, 0)), (.iload 4, 2, (4, 0, 0, 0, 0)), (.iastore, 1, (0, 0, 0, 0, 0)), (.iinc 3 1, 3, (0, 0, 0, 1, 0)), (.aload_n 0, 1, (0, 0, 0, 0, 0)), (.getfield 22, 3, (12, 8, 2025, 0, 0)), (.sipush 301, 3, (0, 0, 0, 301, 0)), (.iload_n 1, 1, (1, 0, 0, 0, 0)), (.imul, 1, (0, 0, 0, 0, 0)), (.iload 4, 2, (4, 0, 0, 0, 0)), (.iadd, 1, (0, 0, 0, 0, 0)), (.iaload, 1, (0, 0, 0, 0, 0)), (.istore 4, 2, (4, 0, 0, 0, 0)), (.goto (-31), 3, (5, 0, 0, 0, 0)), (.iconst 0, 1, (0, 0, 0, 0, 0)), (.istore 4, 2, (4, 0, 0, 0, 0)), (.iload 4, 2, (4, 0, 0, 0, 0)), (.bipush 64, 2, (0, 0, 0, 64, 0)), (.if_icmp .ge 28, 3, (74, 0, 0, 0, 0)), (.aload_n 0, 1, (0, 0, 0, 0, 0)), (.getfield 71, 3, (12, 24, 2055, 0, 0)), (.iload 4, 2, (4, 0, 0, 0, 0)), (.aload_n 0, 1, (0, 0, 0, 0, 0)), (.getfield 47, 3, (12, 16, 2039, 0, 0)), (.bipush 64, 2, (0, 0, 0, 64, 0)), (.iload_n 1, 1, (1, 0, 0, 0, 0)), (.imul, 1, (0, 0, 0, 0, 0)), (.iload 4, 2, (4, 0, 0, 0, 0)), (.iadd, 1, (0, 0, 0, 0, 0)), (.iaload, 1, (0, 0, 0, 0, 0)), (.iastore, 1, (0, 0, 0, 0, 0)), (.iinc 4 1, 3, (0, 0, 0, 1, 0)), (.goto (-29), 3, (42, 0, 0, 0, 0)), (.aload_n 0, 1, (0, 0, 0, 0, 0)), (.aload_n 0, 1, (0, 0, 0, 0, 0)), (.getfield 50, 3, (12, 17, 2041, 0, 0)), (.iconst 5, 1, (0, 0, 0, 5, 0)), (.iload_n 1, 1, (1, 0, 0, 0, 0)), (.imul, 1, (0, 0, 0, 0, 0)), (.iaload, 1, (0, 0, 0, 0, 0)), (.putfield 122, 3, (12, 25, 2057, 0, 0)), (.aload_n 0, 1, (0, 0, 0, 0, 0)), (.aload_n 0, 1, (0, 0, 0, 0, 0)), (.getfield 50, 3, (12, 17, 2041, 0, 0)), (.iconst 5, 1, (0, 0, 0, 5, 0)), (.iload_n 1, 1, (1, 0, 0, 0, 0)), (.imul, 1, (0, 0, 0, 0, 0)), (.iconst 1, 1, (0, 0, 0, 1, 0)), (.iadd, 1, (0, 0, 0, 0, 0)), (.iaload, 1, (0, 0, 0, 0, 0)), (.putfield 125, 3, (12, 26, 2059, 0, 0)), (.aload_n 0, 1, (0, 0, 0, 0, 0)), (.aload_n 0, 1, (0, 0, 0, 0, 0)), (.getfield 50, 3, (12, 17, 2041, 0, 0)), (.iconst 5, 1, (0, 0, 0, 5, 0)), (.iload_n 1, 1, (1, 0, 0, 0, 0)), (.imul, 1, (0, 0, 0, 0, 0)), (.iconst 2, 1, (0, 0, 0, 2, 0)), (.iadd, 1, (0, 0, 0, 0, 0)), (.iaload, 1, (0, 0, 0, 0, 0)), (.putfield 128, 3, (12, 27, 2061, 0, 0)), (.aload_n 0, 1, (0, 0, 0, 0, 0)), (.aload_n 0, 1, (0, 0, 0, 0, 0)), (.getfield 50, 3, (12, 17, 2041, 0, 0)), (.iconst 5, 1, (0, 0, 0, 5, 0)), (.iload_n 1, 1, (1, 0, 0, 0, 0)), (.imul, 1, (0, 0, 0, 0, 0)), (.iconst 3, 1, (0, 0, 0, 3, 0)), (.iadd, 1, (0, 0, 0, 0, 0)), (.iaload, 1, (0, 0, 0, 0, 0)), (.putfield 131, 3, (12, 28, 2063, 0, 0)), (.aload_n 0, 1, (0, 0, 0, 0, 0)), (.aload_n 0, 1, (0, 0, 0, 0, 0)), (.getfield 50, 3, (12, 17, 2041, 0, 0)), (.iconst 5, 1, (0, 0, 0, 5, 0)), (.iload_n 1, 1, (1, 0, 0, 0, 0)), (.imul, 1, (0, 0, 0, 0, 0)), (.iconst 4, 1, (0, 0, 0, 4, 0)), (.iadd, 1, (0, 0, 0, 0, 0)), (.iaload, 1, (0, 0, 0, 0, 0)), (.putfield 134, 3, (12, 29, 2065, 0, 0)), (.iload_n 3, 1, (3, 0, 0, 0, 0)), (.iconst 1, 1, (0, 0, 0, 1, 0)), (.isub, 1, (0, 0, 0, 0, 0)), (.istore 4, 2, (4, 0, 0, 0, 0)), (.iload 4, 2, (4, 0, 0, 0, 0)), (.ifCond .lt 31, 3, (180, 0, 0, 0, 0)), (.aload_n 0, 1, (0, 0, 0, 0, 0)), (.aload_n 0, 1, (0, 0, 0, 0, 0)), (.getfield 25, 3, (12, 9, 2027, 0, 0)), (.sipush 301, 3, (0, 0, 0, 301, 0)), (.iload_n 1, 1, (1, 0, 0, 0, 0)), (.imul, 1, (0, 0, 0, 0, 0)), (.aload_n 0, 1, (0, 0, 0, 0, 0)), (.getfield 83, 3, (12, 34, 2073, 0, 0)), (.iload 4, 2, (4, 0, 0, 0, 0)), (.iaload, 1, (0, 0, 0, 0, 0)), (.iadd, 1, (0, 0, 0, 0, 0)), (.iaload, 1, (0, 0, 0, 0, 0)), (.invokevirtual 150, 3, (0, 0, 0, 0, 0))]
theorem oo_MT_place_0 : jokL "ChessHouseModel$Texts" lw_tbl jcl jtb 5 false prog_18_method_26_code 0 kk_MT_place_0 = true := by decide +kernel
def kk_MT_place_174 : List jI := [(.iinc 4 (-1), 3, (0, 0, 0, (-1), 0)), (.goto (-30), 3, (147, 0, 0, 0, 0)), (.aload_n 0, 1, (0, 0, 0, 0, 0)), (.invokevirtual 186, 3, (0, 0, 0, 0, 0)), (.return_, 1, (0, 0, 0, 0, 0))]
theorem oo_MT_place_174 : jokL "ChessHouseModel$Texts" lw_tbl jcl jtb 5 false prog_18_method_26_code 174 kk_MT_place_174 = true := by decide +kernel
def k_MT_place_0 : List jI := [(.iconst 0, 1, (0, 0, 0, 0, 0)), (.istore_n 3, 1, (3, 0, 0, 0, 0)), (.iload_n 2, 1, (2, 0, 0, 0, 0)), (.istore 4, 2, (4, 0, 0, 0, 0))]
theorem o_MT_place_0 : jokL "ChessHouseModel$Texts" lw_tbl jcl jtb 5 false prog_18_method_26_code 0 k_MT_place_0 = true := jok_sub oo_MT_place_0 0 4 rfl rfl
def k_MT_place_5 : List jI := [(.iload 4, 2, (4, 0, 0, 0, 0)), (.ifCond .le 32, 3, (39, 0, 0, 0, 0)), (.aload_n 0, 1, (0, 0, 0, 0, 0)), (.getfield 83, 3, (12, 34, 2073, 0, 0)), (.iload_n 3, 1, (3, 0, 0, 0, 0)), (.iload 4, 2, (4, 0, 0, 0, 0)), (.iastore, 1, (0, 0, 0, 0, 0)), (.iinc 3 1, 3, (0, 0, 0, 1, 0)), (.aload_n 0, 1, (0, 0, 0, 0, 0)), (.getfield 22, 3, (12, 8, 2025, 0, 0)), (.sipush 301, 3, (0, 0, 0, 301, 0)), (.iload_n 1, 1, (1, 0, 0, 0, 0)), (.imul, 1, (0, 0, 0, 0, 0)), (.iload 4, 2, (4, 0, 0, 0, 0)), (.iadd, 1, (0, 0, 0, 0, 0)), (.iaload, 1, (0, 0, 0, 0, 0)), (.istore 4, 2, (4, 0, 0, 0, 0)), (.goto (-31), 3, (5, 0, 0, 0, 0))]
theorem o_MT_place_5 : jokL "ChessHouseModel$Texts" lw_tbl jcl jtb 5 false prog_18_method_26_code 5 k_MT_place_5 = true := jok_sub oo_MT_place_0 4 18 rfl rfl
def k_MT_place_39 : List jI := [(.iconst 0, 1, (0, 0, 0, 0, 0)), (.istore 4, 2, (4, 0, 0, 0, 0))]
theorem o_MT_place_39 : jokL "ChessHouseModel$Texts" lw_tbl jcl jtb 5 false prog_18_method_26_code 39 k_MT_place_39 = true := jok_sub oo_MT_place_0 22 2 rfl rfl
def k_MT_place_42 : List jI := [(.iload 4, 2, (4, 0, 0, 0, 0)), (.bipush 64, 2, (0, 0, 0, 64, 0)), (.if_icmp .ge 28, 3, (74, 0, 0, 0, 0)), (.aload_n 0, 1, (0, 0, 0, 0, 0)), (.getfield 71, 3, (12, 24, 2055, 0, 0)), (.iload 4, 2, (4, 0, 0, 0, 0)), (.aload_n 0, 1, (0, 0, 0, 0, 0)), (.getfield 47, 3, (12, 16, 2039, 0, 0)), (.bipush 64, 2, (0, 0, 0, 64, 0)), (.iload_n 1, 1, (1, 0, 0, 0, 0)), (.imul, 1, (0, 0, 0, 0, 0)), (.iload 4, 2, (4, 0, 0, 0, 0)), (.iadd, 1, (0, 0, 0, 0, 0)), (.iaload, 1, (0, 0, 0, 0, 0)), (.iastore, 1, (0, 0, 0, 0, 0)), (.iinc 4 1, 3, (0, 0, 0, 1, 0)), (.goto (-29), 3, (42, 0, 0, 0, 0))]
theorem o_MT_place_42 : jokL "ChessHouseModel$Texts" lw_tbl jcl jtb 5 false prog_18_method_26_code 42 k_MT_place_42 = true := jok_sub oo_MT_place_0 24 17 rfl rfl
def k_MT_place_74 : List jI := [(.aload_n 0, 1, (0, 0, 0, 0, 0)), (.aload_n 0, 1, (0, 0, 0, 0, 0)), (.getfield 50, 3, (12, 17, 2041, 0, 0)), (.iconst 5, 1, (0, 0, 0, 5, 0)), (.iload_n 1, 1, (1, 0, 0, 0, 0)), (.imul, 1, (0, 0, 0, 0, 0)), (.iaload, 1, (0, 0, 0, 0, 0)), (.putfield 122, 3, (12, 25, 2057, 0, 0)), (.aload_n 0, 1, (0, 0, 0, 0, 0)), (.aload_n 0, 1, (0, 0, 0, 0, 0)), (.getfield 50, 3, (12, 17, 2041, 0, 0)), (.iconst 5, 1, (0, 0, 0, 5, 0)), (.iload_n 1, 1, (1, 0, 0, 0, 0)), (.imul, 1, (0, 0, 0, 0, 0)), (.iconst 1, 1, (0, 0, 0, 1, 0)), (.iadd, 1, (0, 0, 0, 0, 0)), (.iaload, 1, (0, 0, 0, 0, 0)), (.putfield 125, 3, (12, 26, 2059, 0, 0)), (.aload_n 0, 1, (0, 0, 0, 0, 0)), (.aload_n 0, 1, (0, 0, 0, 0, 0)), (.getfield 50, 3, (12, 17, 2041, 0, 0)), (.iconst 5, 1, (0, 0, 0, 5, 0)), (.iload_n 1, 1, (1, 0, 0, 0, 0)), (.imul, 1, (0, 0, 0, 0, 0)), (.iconst 2, 1, (0, 0, 0, 2, 0)), (.iadd, 1, (0, 0, 0, 0, 0)), (.iaload, 1, (0, 0, 0, 0, 0)), (.putfield 128, 3, (12, 27, 2061, 0, 0)), (.aload_n 0, 1, (0, 0, 0, 0, 0)), (.aload_n 0, 1, (0, 0, 0, 0, 0)), (.getfield 50, 3, (12, 17, 2041, 0, 0)), (.iconst 5, 1, (0, 0, 0, 5, 0)), (.iload_n 1, 1, (1, 0, 0, 0, 0)), (.imul, 1, (0, 0, 0, 0, 0)), (.iconst 3, 1, (0, 0, 0, 3, 0)), (.iadd, 1, (0, 0, 0, 0, 0)), (.iaload, 1, (0, 0, 0, 0, 0)), (.putfield 131, 3, (12, 28, 2063, 0, 0)), (.aload_n 0, 1, (0, 0, 0, 0, 0)), (.aload_n 0, 1, (0, 0, 0, 0, 0)), (.getfield 50, 3, (12, 17, 2041, 0, 0)), (.iconst 5, 1, (0, 0, 0, 5, 0)), (.iload_n 1, 1, (1, 0, 0, 0, 0)), (.imul, 1, (0, 0, 0, 0, 0)), (.iconst 4, 1, (0, 0, 0, 4, 0)), (.iadd, 1, (0, 0, 0, 0, 0)), (.iaload, 1, (0, 0, 0, 0, 0)), (.putfield 134, 3, (12, 29, 2065, 0, 0)), (.iload_n 3, 1, (3, 0, 0, 0, 0)), (.iconst 1, 1, (0, 0, 0, 1, 0)), (.isub, 1, (0, 0, 0, 0, 0)), (.istore 4, 2, (4, 0, 0, 0, 0))]
theorem o_MT_place_74 : jokL "ChessHouseModel$Texts" lw_tbl jcl jtb 5 false prog_18_method_26_code 74 k_MT_place_74 = true := jok_sub oo_MT_place_0 41 52 rfl rfl
def k_MT_place_147 : List jI := [(.iload 4, 2, (4, 0, 0, 0, 0)), (.ifCond .lt 31, 3, (180, 0, 0, 0, 0)), (.aload_n 0, 1, (0, 0, 0, 0, 0)), (.aload_n 0, 1, (0, 0, 0, 0, 0)), (.getfield 25, 3, (12, 9, 2027, 0, 0)), (.sipush 301, 3, (0, 0, 0, 301, 0)), (.iload_n 1, 1, (1, 0, 0, 0, 0)), (.imul, 1, (0, 0, 0, 0, 0)), (.aload_n 0, 1, (0, 0, 0, 0, 0)), (.getfield 83, 3, (12, 34, 2073, 0, 0)), (.iload 4, 2, (4, 0, 0, 0, 0)), (.iaload, 1, (0, 0, 0, 0, 0)), (.iadd, 1, (0, 0, 0, 0, 0)), (.iaload, 1, (0, 0, 0, 0, 0))]
theorem o_MT_place_147 : jokL "ChessHouseModel$Texts" lw_tbl jcl jtb 5 false prog_18_method_26_code 147 k_MT_place_147 = true := jok_sub oo_MT_place_0 93 14 rfl rfl
def k_MT_place_174 : List jI := [(.iinc 4 (-1), 3, (0, 0, 0, (-1), 0)), (.goto (-30), 3, (147, 0, 0, 0, 0))]
theorem o_MT_place_174 : jokL "ChessHouseModel$Texts" lw_tbl jcl jtb 5 false prog_18_method_26_code 174 k_MT_place_174 = true := jok_sub oo_MT_place_174 0 2 rfl rfl
def k_MT_place_180 : List jI := [(.aload_n 0, 1, (0, 0, 0, 0, 0))]
theorem o_MT_place_180 : jokL "ChessHouseModel$Texts" lw_tbl jcl jtb 5 false prog_18_method_26_code 180 k_MT_place_180 = true := jok_sub oo_MT_place_174 2 1 rfl rfl
theorem d_MT_place_171 : decode prog_18_method_26_code 171 = .ok (.invokevirtual 150, 3) := by decide +kernel
theorem q_MT_place_171 : jlm lw_tbl 1937 "ChessHouseModel$Texts" 150 ⟨"ChessHouseModel$Texts", "make", "(I)V"⟩ = true := by decide +kernel
theorem d_MT_place_181 : decode prog_18_method_26_code 181 = .ok (.invokevirtual 186, 3) := by decide +kernel
theorem q_MT_place_181 : jlm lw_tbl 1959 "ChessHouseModel$Texts" 186 ⟨"ChessHouseModel$Texts", "findMoves", "()V"⟩ = true := by decide +kernel
theorem d_MT_place_184 : decode prog_18_method_26_code 184 = .ok (.return_, 1) := by decide +kernel
def y_MT_init : jY := (⟨"ChessHouseModel$Texts", "<init>", "()V"⟩, prog_18_method_1_code, 1, none)
theorem m_MT_init : jmth lw_tbl y_MT_init 0 := ⟨jTA_in (wi := 1912) (by decide +kernel) rfl, jTA_in (wi := 315) (by decide +kernel) rfl, by decide, by decide, by decide +kernel⟩
theorem i_MT_init : Jvm.Cond.instanceMethod y_MT_init.1 ∈ jTA lw_tbl := jTA_in (wi := 1911) (by decide +kernel) rfl
def kk_MT_init_0 : List jI := [(.aload_n 0, 1, (0, 0, 0, 0, 0)), (.invokespecial 1, 3, (0, 0, 0, 0, 0)), (.aload_n 0, 1, (0, 0, 0, 0, 0)), (.ldc 7, 2, (0, 0, 1914, 65536, 0)), (.newarray .char, 2, (0, 0, 0, 0, 0)), (.putfield 8, 3, (12, 2, 2014, 3, 0)), (.aload_n 0, 1, (0, 0, 0, 0, 0)), (.ldc 14, 2, (0, 0, 1915, 80000, 0)), (.newarray .char, 2, (0, 0, 0, 0, 0)), (.putfield 15, 3, (12, 4, 2017, 3, 0)), (.aload_n 0, 1, (0, 0, 0, 0, 0)), (.iconst 2, 1, (0, 0, 0, 2, 0)), (.newarray .int, 2, (0, 0, 0, 0, 0)), (.putfield 18, 3, (12, 7, 2023, 3, 0)), (.aload_n 0, 1, (0, 0, 0, 0, 0)), (.sipush 602, 3, (0, 0, 0, 602, 0)), (.newarray .int, 2, (0, 0, 0, 0, 0)), (.putfield 22, 3, (12, 8, 2025, 3, 0)), (.aload_n 0, 1, (0, 0, 0, 0, 0)), (.sipush 602, 3, (0, 0, 0, 602, 0)), (.newarray .int, 2, (0, 0, 0, 0, 0)), (.putfield 25, 3, (12, 9, 2027, 3, 0)), (.aload_n 0, 1, (0, 0, 0, 0, 0)), (.sipush 602, 3, (0, 0, 0, 602, 0)), (.newarray .int, 2, (0, 0, 0, 0, 0)), (.putfield 28, 3, (12, 10, 2029, 3, 0)), (.aload_n 0, 1, (0, 0, 0, 0, 0)), (.sipush 602, 3, (0, 0, 0, 602, 0)), (.newarray .int, 2, (0, 0, 0, 0, 0)), (.putfield 31, 3, (12, 11, 2031, 3, 0)), (.aload_n 0, 1, (0, 0, 0, 0, 0)), (.sipush 602, 3, (0, 0, 0, 602, 0)), (.newarray .int, 2, (0, 0, 0, 0, 0)), (.putfield 34, 3, (12, 12, 2033, 3, 0)), (.aload_n 0, 1, (0, 0, 0, 0, 0)), (.sipush 2408, 3, (0, 0, 0, 2408, 0)), (.newarray .int, 2, (0, 0, 0, 0, 0)), (.putfield 37, 3, (12, 13, 2034, 3, 0)), (.aload_n 0, 1, (0, 0, 0, 0, 0)), (.sipush 602, 3, (0, 0, 0, 602, 0)), (.newarray .int, 2, (0, 0, 0, 0, 0)), (.putfield 40, 3, (12, 14, 2035, 3, 0)), (.aload_n 0, 1, (0, 0, 0, 0, 0)), (.ldc 43, 2, (0, 0, 1916, 120400, 0)), (.newarray .char, 2, (0, 0, 0, 0, 0)), (.putfield 44, 3, (12, 15, 2037, 3, 0)), (.aload_n 0, 1, (0, 0, 0, 0, 0)), (.sipush 128, 3, (0, 0, 0, 128, 0)), (.newarray .int, 2, (0, 0, 0, 0, 0)), (.putfield 47, 3, (12, 16, 2039, 3, 0)), (.aload_n 0, 1, (0, 0, 0, 0, 0)), (.bipush 10, 2, (0, 0, 0, 10, 0)), (.newarray .int, 2, (0, 0, 0, 0, 0)), (.putfield 50, 3, (12, 17, 2041, 3, 0)), (.aload_n 0, 1, (0, 0, 0, 0, 0)), (.iconst 2, 1, (0, 0, 0, 2, 0)), (.newarray .int, 2, (0, 0, 0, 0, 0)), (.putfield 53, 3, (12, 18, 2043, 3, 0)), (.aload_n 0, 1, (0, 0, 0, 0, 0)), (.bipush 16, 2, (0, 0, 0, 16, 0)), (.newarray .int, 2, (0, 0, 0, 0, 0)), (.putfield 56, 3, (12, 19, 2045, 3, 0)), (.aload_n 0, 1, (0, 0, 0, 0, 0)), (.sipush 192, 3, (0, 0, 0, 192, 0)), (.newarray .char, 2, (0, 0, 0, 0, 0)), (.putfield 59, 3, (12, 20, 2047, 3, 0)), (.aload_n 0, 1, (0, 0, 0, 0, 0)), (.bipush 16, 2, (0, 0, 0, 16, 0)), (.newarray .int, 2, (0, 0, 0, 0, 0)), (.putfield 62, 3, (12, 21, 2049, 3, 0)), (.aload_n 0, 1, (0, 0, 0, 0, 0)), (.sipush 1536, 3, (0, 0, 0, 1536, 0)), (.newarray .char, 2, (0, 0, 0, 0, 0)), (.putfield 65, 3, (12, 22, 2051, 3, 0)), (.aload_n 0, 1, (0, 0, 0, 0, 0)), (.iconst 2, 1, (0, 0, 0, 2, 0)), (.newarray .int, 2, (0, 0, 0, 0, 0)), (.putfield 68, 3, (12, 23, 2053, 3, 0)), (.aload_n 0, 1, (0, 0, 0, 0, 0)), (.bipush 64, 2, (0, 0, 0, 64, 0)), (.newarray .int, 2, (0, 0, 0, 0, 0)), (.putfield 71, 3, (12, 24, 2055, 3, 0)), (.aload_n 0, 1, (0, 0, 0, 0, 0)), (.bipush 64, 2, (0, 0, 0, 64, 0)), (.newarray .int, 2, (0, 0, 0, 0, 0)), (.putfield 74, 3, (12, 30, 2067, 3, 0)), (.aload_n 0, 1, (0, 0, 0, 0, 0)), (.iconst 5, 1, (0, 0, 0, 5, 0)), (.newarray .int, 2, (0, 0, 0, 0, 0)), (.putfield 77, 3, (12, 31, 2068, 3, 0)), (.aload_n 0, 1, (0, 0, 0, 0, 0)), (.sipush 2048, 3, (0, 0, 0, 2048, 0)), (.newarray .int, 2, (0, 0, 0, 0, 0)), (.putfield 80, 3, (12, 32, 2069, 3, 0)), (.aload_n 0, 1, (0, 0, 0, 0, 0)), (.sipush 301, 3, (0, 0, 0, 301, 0)), (.newarray .int, 2, (0, 0, 0, 0, 0)), (.putfield 83, 3, (12, 34, 2073, 3, 0)), (.aload_n 0, 1, (0, 0, 0, 0, 0)), (.bipush 16, 2, (0, 0, 0, 16, 0)), (.newarray .char, 2, (0, 0, 0, 0, 0))]
theorem oo_MT_init_0 : jokL "ChessHouseModel$Texts" lw_tbl jcl jtb 1 true prog_18_method_1_code 0 kk_MT_init_0 = true := by decide +kernel
def kk_MT_init_209 : List jI := [(.putfield 86, 3, (12, 35, 2074, 3, 0)), (.aload_n 0, 1, (0, 0, 0, 0, 0)), (.iconst 0, 1, (0, 0, 0, 0, 0)), (.invokevirtual 89, 3, (0, 0, 0, 0, 0)), (.aload_n 0, 1, (0, 0, 0, 0, 0)), (.iconst 0, 1, (0, 0, 0, 0, 0)), (.invokevirtual 93, 3, (0, 0, 0, 0, 0)), (.aload_n 0, 1, (0, 0, 0, 0, 0)), (.iconst 0, 1, (0, 0, 0, 0, 0)), (.iconst 0, 1, (0, 0, 0, 0, 0)), (.invokevirtual 96, 3, (0, 0, 0, 0, 0)), (.return_, 1, (0, 0, 0, 0, 0))]
theorem oo_MT_init_209 : jokL "ChessHouseModel$Texts" lw_tbl jcl jtb 1 true prog_18_method_1_code 209 kk_MT_init_209 = true := by decide +kernel
def k_MT_init_0 : List jI := [(.aload_n 0, 1, (0, 0, 0, 0, 0))]
theorem o_MT_init_0 : jokL "ChessHouseModel$Texts" lw_tbl jcl jtb 1 true prog_18_method_1_code 0 k_MT_init_0 = true := jok_sub oo_MT_init_0 0 1 rfl rfl
def k_MT_init_4 : List jI := [(.aload_n 0, 1, (0, 0, 0, 0, 0)), (.ldc 7, 2, (0, 0, 1914, 65536, 0))]
theorem o_MT_init_4 : jokL "ChessHouseModel$Texts" lw_tbl jcl jtb 1 true prog_18_method_1_code 4 k_MT_init_4 = true := jok_sub oo_MT_init_0 2 2 rfl rfl
def k_MT_init_9 : List jI := [(.putfield 8, 3, (12, 2, 2014, 3, 0)), (.aload_n 0, 1, (0, 0, 0, 0, 0)), (.ldc 14, 2, (0, 0, 1915, 80000, 0))]
theorem o_MT_init_9 : jokL "ChessHouseModel$Texts" lw_tbl jcl jtb 1 true prog_18_method_1_code 9 k_MT_init_9 = true := jok_sub oo_MT_init_0 5 3 rfl rfl
def k_MT_init_17 : List jI := [(.putfield 15, 3, (12, 4, 2017, 3, 0)), (.aload_n 0, 1, (0, 0, 0, 0, 0)), (.iconst 2, 1, (0, 0, 0, 2, 0))]
theorem o_MT_init_17 : jokL "ChessHouseModel$Texts" lw_tbl jcl jtb 1 true prog_18_method_1_code 17 k_MT_init_17 = true := jok_sub oo_MT_init_0 9 3 rfl rfl
def k_MT_init_24 : List jI := [(.putfield 18, 3, (12, 7, 2023, 3, 0)), (.aload_n 0, 1, (0, 0, 0, 0, 0)), (.sipush 602, 3, (0, 0, 0, 602, 0))]
theorem o_MT_init_24 : jokL "ChessHouseModel$Texts" lw_tbl jcl jtb 1 true prog_18_method_1_code 24 k_MT_init_24 = true := jok_sub oo_MT_init_0 13 3 rfl rfl
def k_MT_init_33 : List jI := [(.putfield 22, 3, (12, 8, 2025, 3, 0)), (.aload_n 0, 1, (0, 0, 0, 0, 0)), (.sipush 602, 3, (0, 0, 0, 602, 0))]
theorem o_MT_init_33 : jokL "ChessHouseModel$Texts" lw_tbl jcl jtb 1 true prog_18_method_1_code 33 k_MT_init_33 = true := jok_sub oo_MT_init_0 17 3 rfl rfl
def k_MT_init_42 : List jI := [(.putfield 25, 3, (12, 9, 2027, 3, 0)), (.aload_n 0, 1, (0, 0, 0, 0, 0)), (.sipush 602, 3, (0, 0, 0, 602, 0))]
theorem o_MT_init_42 : jokL "ChessHouseModel$Texts" lw_tbl jcl jtb 1 true prog_18_method_1_code 42 k_MT_init_42 = true := jok_sub oo_MT_init_0 21 3 rfl rfl
def k_MT_init_51 : List jI := [(.putfield 28, 3, (12, 10, 2029, 3, 0)), (.aload_n 0, 1, (0, 0, 0, 0, 0)), (.sipush 602, 3, (0, 0, 0, 602, 0))]
theorem o_MT_init_51 : jokL "ChessHouseModel$Texts" lw_tbl jcl jtb 1 true prog_18_method_1_code 51 k_MT_init_51 = true := jok_sub oo_MT_init_0 25 3 rfl rfl
def k_MT_init_60 : List jI := [(.putfield 31, 3, (12, 11, 2031, 3, 0)), (.aload_n 0, 1, (0, 0, 0, 0, 0)), (.sipush 602, 3, (0, 0, 0, 602, 0))]
theorem o_MT_init_60 : jokL "ChessHouseModel$Texts" lw_tbl jcl jtb 1 true prog_18_method_1_code 60 k_MT_init_60 = true := jok_sub oo_MT_init_0 29 3 rfl rfl
def k_MT_init_69 : List jI := [(.putfield 34, 3, (12, 12, 2033, 3, 0)), (.aload_n 0, 1, (0, 0, 0, 0, 0)), (.sipush 2408, 3, (0, 0, 0, 2408, 0))]
theorem o_MT_init_69 : jokL "ChessHouseModel$Texts" lw_tbl jcl jtb 1 true prog_18_method_1_code 69 k_MT_init_69 = true := jok_sub oo_MT_init_0 33 3 rfl rfl
def k_MT_init_78 : List jI := [(.putfield 37, 3, (12, 13, 2034, 3, 0)), (.aload_n 0, 1, (0, 0, 0, 0, 0)), (.sipush 602, 3, (0, 0, 0, 602, 0))]
theorem o_MT_init_78 : jokL "ChessHouseModel$Texts" lw_tbl jcl jtb 1 true prog_18_method_1_code 78 k_MT_init_78 = true := jok_sub oo_MT_init_0 37 3 rfl rfl
def k_MT_init_87 : List jI := [(.putfield 40, 3, (12, 14, 2035, 3, 0)), (.aload_n 0, 1, (0, 0, 0, 0, 0)), (.ldc 43, 2, (0, 0, 1916, 120400, 0))]
theorem o_MT_init_87 : jokL "ChessHouseModel$Texts" lw_tbl jcl jtb 1 true prog_18_method_1_code 87 k_MT_init_87 = true := jok_sub oo_MT_init_0 41 3 rfl rfl
def k_MT_init_95 : List jI := [(.putfield 44, 3, (12, 15, 2037, 3, 0)), (.aload_n 0, 1, (0, 0, 0, 0, 0)), (.sipush 128, 3, (0, 0, 0, 128, 0))]
theorem o_MT_init_95 : jokL "ChessHouseModel$Texts" lw_tbl jcl jtb 1 true prog_18_method_1_code 95 k_MT_init_95 = true := jok_sub oo_MT_init_0 45 3 rfl rfl
def k_MT_init_104 : List jI := [(.putfield 47, 3, (12, 16, 2039, 3, 0)), (.aload_n 0, 1, (0, 0, 0, 0, 0)), (.bipush 10, 2, (0, 0, 0, 10, 0))]
theorem o_MT_init_104 : jokL "ChessHouseModel$Texts" lw_tbl jcl jtb 1 true prog_18_method_1_code 104 k_MT_init_104 = true := jok_sub oo_MT_init_0 49 3 rfl rfl
def k_MT_init_112 : List jI := [(.putfield 50, 3, (12, 17, 2041, 3, 0)), (.aload_n 0, 1, (0, 0, 0, 0, 0)), (.iconst 2, 1, (0, 0, 0, 2, 0))]
theorem o_MT_init_112 : jokL "ChessHouseModel$Texts" lw_tbl jcl jtb 1 true prog_18_method_1_code 112 k_MT_init_112 = true := jok_sub oo_MT_init_0 53 3 rfl rfl
def k_MT_init_119 : List jI := [(.putfield 53, 3, (12, 18, 2043, 3, 0)), (.aload_n 0, 1, (0, 0, 0, 0, 0)), (.bipush 16, 2, (0, 0, 0, 16, 0))]
theorem o_MT_init_119 : jokL "ChessHouseModel$Texts" lw_tbl jcl jtb 1 true prog_18_method_1_code 119 k_MT_init_119 = true := jok_sub oo_MT_init_0 57 3 rfl rfl
def k_MT_init_127 : List jI := [(.putfield 56, 3, (12, 19, 2045, 3, 0)), (.aload_n 0, 1, (0, 0, 0, 0, 0)), (.sipush 192, 3, (0, 0, 0, 192, 0))]
theorem o_MT_init_127 : jokL "ChessHouseModel$Texts" lw_tbl jcl jtb 1 true prog_18_method_1_code 127 k_MT_init_127 = true := jok_sub oo_MT_init_0 61 3 rfl rfl
def k_MT_init_136 : List jI := [(.putfield 59, 3, (12, 20, 2047, 3, 0)), (.aload_n 0, 1, (0, 0, 0, 0, 0)), (.bipush 16, 2, (0, 0, 0, 16, 0))]
theorem o_MT_init_136 : jokL "ChessHouseModel$Texts" lw_tbl jcl jtb 1 true prog_18_method_1_code 136 k_MT_init_136 = true := jok_sub oo_MT_init_0 65 3 rfl rfl
def k_MT_init_144 : List jI := [(.putfield 62, 3, (12, 21, 2049, 3, 0)), (.aload_n 0, 1, (0, 0, 0, 0, 0)), (.sipush 1536, 3, (0, 0, 0, 1536, 0))]
theorem o_MT_init_144 : jokL "ChessHouseModel$Texts" lw_tbl jcl jtb 1 true prog_18_method_1_code 144 k_MT_init_144 = true := jok_sub oo_MT_init_0 69 3 rfl rfl
def k_MT_init_153 : List jI := [(.putfield 65, 3, (12, 22, 2051, 3, 0)), (.aload_n 0, 1, (0, 0, 0, 0, 0)), (.iconst 2, 1, (0, 0, 0, 2, 0))]
theorem o_MT_init_153 : jokL "ChessHouseModel$Texts" lw_tbl jcl jtb 1 true prog_18_method_1_code 153 k_MT_init_153 = true := jok_sub oo_MT_init_0 73 3 rfl rfl
def k_MT_init_160 : List jI := [(.putfield 68, 3, (12, 23, 2053, 3, 0)), (.aload_n 0, 1, (0, 0, 0, 0, 0)), (.bipush 64, 2, (0, 0, 0, 64, 0))]
theorem o_MT_init_160 : jokL "ChessHouseModel$Texts" lw_tbl jcl jtb 1 true prog_18_method_1_code 160 k_MT_init_160 = true := jok_sub oo_MT_init_0 77 3 rfl rfl
def k_MT_init_168 : List jI := [(.putfield 71, 3, (12, 24, 2055, 3, 0)), (.aload_n 0, 1, (0, 0, 0, 0, 0)), (.bipush 64, 2, (0, 0, 0, 64, 0))]
theorem o_MT_init_168 : jokL "ChessHouseModel$Texts" lw_tbl jcl jtb 1 true prog_18_method_1_code 168 k_MT_init_168 = true := jok_sub oo_MT_init_0 81 3 rfl rfl
def k_MT_init_176 : List jI := [(.putfield 74, 3, (12, 30, 2067, 3, 0)), (.aload_n 0, 1, (0, 0, 0, 0, 0)), (.iconst 5, 1, (0, 0, 0, 5, 0))]
theorem o_MT_init_176 : jokL "ChessHouseModel$Texts" lw_tbl jcl jtb 1 true prog_18_method_1_code 176 k_MT_init_176 = true := jok_sub oo_MT_init_0 85 3 rfl rfl
def k_MT_init_183 : List jI := [(.putfield 77, 3, (12, 31, 2068, 3, 0)), (.aload_n 0, 1, (0, 0, 0, 0, 0)), (.sipush 2048, 3, (0, 0, 0, 2048, 0))]
theorem o_MT_init_183 : jokL "ChessHouseModel$Texts" lw_tbl jcl jtb 1 true prog_18_method_1_code 183 k_MT_init_183 = true := jok_sub oo_MT_init_0 89 3 rfl rfl
def k_MT_init_192 : List jI := [(.putfield 80, 3, (12, 32, 2069, 3, 0)), (.aload_n 0, 1, (0, 0, 0, 0, 0)), (.sipush 301, 3, (0, 0, 0, 301, 0))]
theorem o_MT_init_192 : jokL "ChessHouseModel$Texts" lw_tbl jcl jtb 1 true prog_18_method_1_code 192 k_MT_init_192 = true := jok_sub oo_MT_init_0 93 3 rfl rfl
def k_MT_init_201 : List jI := [(.putfield 83, 3, (12, 34, 2073, 3, 0)), (.aload_n 0, 1, (0, 0, 0, 0, 0)), (.bipush 16, 2, (0, 0, 0, 16, 0))]
theorem o_MT_init_201 : jokL "ChessHouseModel$Texts" lw_tbl jcl jtb 1 true prog_18_method_1_code 201 k_MT_init_201 = true := jok_sub oo_MT_init_0 97 3 rfl rfl
def k_MT_init_209 : List jI := [(.putfield 86, 3, (12, 35, 2074, 3, 0)), (.aload_n 0, 1, (0, 0, 0, 0, 0)), (.iconst 0, 1, (0, 0, 0, 0, 0))]
theorem o_MT_init_209 : jokL "ChessHouseModel$Texts" lw_tbl jcl jtb 1 true prog_18_method_1_code 209 k_MT_init_209 = true := jok_sub oo_MT_init_209 0 3 rfl rfl
def k_MT_init_217 : List jI := [(.aload_n 0, 1, (0, 0, 0, 0, 0)), (.iconst 0, 1, (0, 0, 0, 0, 0))]
theorem o_MT_init_217 : jokL "ChessHouseModel$Texts" lw_tbl jcl jtb 1 true prog_18_method_1_code 217 k_MT_init_217 = true := jok_sub oo_MT_init_209 4 2 rfl rfl
def k_MT_init_222 : List jI := [(.aload_n 0, 1, (0, 0, 0, 0, 0)), (.iconst 0, 1, (0, 0, 0, 0, 0)), (.iconst 0, 1, (0, 0, 0, 0, 0))]
theorem o_MT_init_222 : jokL "ChessHouseModel$Texts" lw_tbl jcl jtb 1 true prog_18_method_1_code 222 k_MT_init_222 = true := jok_sub oo_MT_init_209 7 3 rfl rfl
theorem d_MT_init_1 : decode prog_18_method_1_code 1 = .ok (.invokespecial 1, 3) := by decide +kernel
theorem d_MT_init_7 : decode prog_18_method_1_code 7 = .ok (.newarray .char, 2) := by decide +kernel
theorem d_MT_init_15 : decode prog_18_method_1_code 15 = .ok (.newarray .char, 2) := by decide +kernel
theorem d_MT_init_22 : decode prog_18_method_1_code 22 = .ok (.newarray .int, 2) := by decide +kernel
theorem d_MT_init_31 : decode prog_18_method_1_code 31 = .ok (.newarray .int, 2) := by decide +kernel
theorem d_MT_init_40 : decode prog_18_method_1_code 40 = .ok (.newarray .int, 2) := by decide +kernel
theorem d_MT_init_49 : decode prog_18_method_1_code 49 = .ok (.newarray .int, 2) := by decide +kernel
theorem d_MT_init_58 : decode prog_18_method_1_code 58 = .ok (.newarray .int, 2) := by decide +kernel
theorem d_MT_init_67 : decode prog_18_method_1_code 67 = .ok (.newarray .int, 2) := by decide +kernel
theorem d_MT_init_76 : decode prog_18_method_1_code 76 = .ok (.newarray .int, 2) := by decide +kernel
theorem d_MT_init_85 : decode prog_18_method_1_code 85 = .ok (.newarray .int, 2) := by decide +kernel
theorem d_MT_init_93 : decode prog_18_method_1_code 93 = .ok (.newarray .char, 2) := by decide +kernel
theorem d_MT_init_102 : decode prog_18_method_1_code 102 = .ok (.newarray .int, 2) := by decide +kernel
theorem d_MT_init_110 : decode prog_18_method_1_code 110 = .ok (.newarray .int, 2) := by decide +kernel
theorem d_MT_init_117 : decode prog_18_method_1_code 117 = .ok (.newarray .int, 2) := by decide +kernel
theorem d_MT_init_125 : decode prog_18_method_1_code 125 = .ok (.newarray .int, 2) := by decide +kernel
theorem d_MT_init_134 : decode prog_18_method_1_code 134 = .ok (.newarray .char, 2) := by decide +kernel
theorem d_MT_init_142 : decode prog_18_method_1_code 142 = .ok (.newarray .int, 2) := by decide +kernel
theorem d_MT_init_151 : decode prog_18_method_1_code 151 = .ok (.newarray .char, 2) := by decide +kernel
theorem d_MT_init_158 : decode prog_18_method_1_code 158 = .ok (.newarray .int, 2) := by decide +kernel
theorem d_MT_init_166 : decode prog_18_method_1_code 166 = .ok (.newarray .int, 2) := by decide +kernel
theorem d_MT_init_174 : decode prog_18_method_1_code 174 = .ok (.newarray .int, 2) := by decide +kernel
theorem d_MT_init_181 : decode prog_18_method_1_code 181 = .ok (.newarray .int, 2) := by decide +kernel
theorem d_MT_init_190 : decode prog_18_method_1_code 190 = .ok (.newarray .int, 2) := by decide +kernel
theorem d_MT_init_199 : decode prog_18_method_1_code 199 = .ok (.newarray .int, 2) := by decide +kernel
theorem d_MT_init_207 : decode prog_18_method_1_code 207 = .ok (.newarray .char, 2) := by decide +kernel
theorem d_MT_init_214 : decode prog_18_method_1_code 214 = .ok (.invokevirtual 89, 3) := by decide +kernel
theorem q_MT_init_214 : jlm lw_tbl 1917 "ChessHouseModel$Texts" 89 ⟨"ChessHouseModel$Texts", "clearGame", "(I)V"⟩ = true := by decide +kernel
theorem d_MT_init_219 : decode prog_18_method_1_code 219 = .ok (.invokevirtual 93, 3) := by decide +kernel
theorem q_MT_init_219 : jlm lw_tbl 1925 "ChessHouseModel$Texts" 93 ⟨"ChessHouseModel$Texts", "usual", "(I)V"⟩ = true := by decide +kernel
theorem d_MT_init_225 : decode prog_18_method_1_code 225 = .ok (.invokevirtual 96, 3) := by decide +kernel
theorem q_MT_init_225 : jlm lw_tbl 1933 "ChessHouseModel$Texts" 96 ⟨"ChessHouseModel$Texts", "place", "(II)V"⟩ = true := by decide +kernel
theorem d_MT_init_228 : decode prog_18_method_1_code 228 = .ok (.return_, 1) := by decide +kernel
def y_MM_init : jY := (⟨"ChessHouseModel", "<init>", "()V"⟩, prog_15_method_1_code, 1, none)
theorem m_MM_init : jmth lw_tbl y_MM_init 0 := ⟨jTA_in (wi := 1905) (by decide +kernel) rfl, jTA_in (wi := 314) (by decide +kernel) rfl, by decide, by decide, by decide +kernel⟩
theorem i_MM_init : Jvm.Cond.instanceMethod y_MM_init.1 ∈ jTA lw_tbl := jTA_in (wi := 1904) (by decide +kernel) rfl
def kk_MM_init_0 : List jI := [(.aload_n 0, 1, (0, 0, 0, 0, 0)), (.invokespecial 1, 3, (0, 0, 0, 0, 0)), (.aload_n 0, 1, (0, 0, 0, 0, 0)), (.ldc 9, 2, (0, 0, 1907, 65536, 0)), (.newarray .byte, 2, (0, 0, 0, 0, 0)), (.putfield 10, 3, (11, 2, 2304, 3, 0)), (.aload_n 0, 1, (0, 0, 0, 0, 0)), (.ldc 9, 2, (0, 0, 1907, 65536, 0)), (.newarray .byte, 2, (0, 0, 0, 0, 0)), (.putfield 14, 3, (11, 4, 2306, 3, 0)), (.aload_n 0, 1, (0, 0, 0, 0, 0)), (.new 17, 3, (0, 0, 0, 0, 0)), (.dup, 1, (0, 0, 0, 0, 0)), (.invokespecial 19, 3, (0, 0, 0, 0, 0)), (.putfield 20, 3, (11, 5, 2307, 3, 0)), (.aload_n 0, 1, (0, 0, 0, 0, 0)), (.new 24, 3, (0, 0, 0, 0, 0)), (.dup, 1, (0, 0, 0, 0, 0)), (.invokespecial 26, 3, (0, 0, 0, 0, 0)), (.putfield 27, 3, (11, 6, 2308, 3, 0)), (.aload_n 0, 1, (0, 0, 0, 0, 0)), (.ldc 31, 2, (0, 0, 2301, 32768, 0)), (.newarray .int, 2, (0, 0, 0, 0, 0)), (.putfield 32, 3, (11, 14, 2316, 3, 0)), (.aload_n 0, 1, (0, 0, 0, 0, 0)), (.ldc 31, 2, (0, 0, 2301, 32768, 0)), (.newarray .int, 2, (0, 0, 0, 0, 0)), (.putfield 36, 3, (11, 15, 2317, 3, 0)), (.aload_n 0, 1, (0, 0, 0, 0, 0)), (.sipush 301, 3, (0, 0, 0, 301, 0)), (.newarray .int, 2, (0, 0, 0, 0, 0)), (.putfield 39, 3, (11, 17, 2319, 3, 0)), (.aload_n 0, 1, (0, 0, 0, 0, 0)), (.bipush 100, 2, (0, 0, 0, 100, 0)), (.newarray .char, 2, (0, 0, 0, 0, 0)), (.putfield 42, 3, (11, 18, 2320, 3, 0)), (.return_, 1, (0, 0, 0, 0, 0))]
theorem oo_MM_init_0 : jokL "ChessHouseModel" lw_tbl jcl jtb 1 true prog_15_method_1_code 0 kk_MM_init_0 = true := by decide +kernel
def k_MM_init_0 : List jI := [(.aload_n 0, 1, (0, 0, 0, 0, 0))]
theorem o_MM_init_0 : jokL "ChessHouseModel" lw_tbl jcl jtb 1 true prog_15_method_1_code 0 k_MM_init_0 = true := jok_sub oo_MM_init_0 0 1 rfl rfl
def k_MM_init_4 : List jI := [(.aload_n 0, 1, (0, 0, 0, 0, 0)), (.ldc 9, 2, (0, 0, 1907, 65536, 0))]
theorem o_MM_init_4 : jokL "ChessHouseModel" lw_tbl jcl jtb 1 true prog_15_method_1_code 4 k_MM_init_4 = true := jok_sub oo_MM_init_0 2 2 rfl rfl
def k_MM_init_9 : List jI := [(.putfield 10, 3, (11, 2, 2304, 3, 0)), (.aload_n 0, 1, (0, 0, 0, 0, 0)), (.ldc 9, 2, (0, 0, 1907, 65536, 0))]
theorem o_MM_init_9 : jokL "ChessHouseModel" lw_tbl jcl jtb 1 true prog_15_method_1_code 9 k_MM_init_9 = true := jok_sub oo_MM_init_0 5 3 rfl rfl
def k_MM_init_17 : List jI := [(.putfield 14, 3, (11, 4, 2306, 3, 0)), (.aload_n 0, 1, (0, 0, 0, 0, 0))]
theorem o_MM_init_17 : jokL "ChessHouseModel" lw_tbl jcl jtb 1 true prog_15_method_1_code 17 k_MM_init_17 = true := jok_sub oo_MM_init_0 9 2 rfl rfl
def k_MM_init_24 : List jI := [(.dup, 1, (0, 0, 0, 0, 0))]
theorem o_MM_init_24 : jokL "ChessHouseModel" lw_tbl jcl jtb 1 true prog_15_method_1_code 24 k_MM_init_24 = true := jok_sub oo_MM_init_0 12 1 rfl rfl
def k_MM_init_28 : List jI := [(.putfield 20, 3, (11, 5, 2307, 3, 0)), (.aload_n 0, 1, (0, 0, 0, 0, 0))]
theorem o_MM_init_28 : jokL "ChessHouseModel" lw_tbl jcl jtb 1 true prog_15_method_1_code 28 k_MM_init_28 = true := jok_sub oo_MM_init_0 14 2 rfl rfl
def k_MM_init_35 : List jI := [(.dup, 1, (0, 0, 0, 0, 0))]
theorem o_MM_init_35 : jokL "ChessHouseModel" lw_tbl jcl jtb 1 true prog_15_method_1_code 35 k_MM_init_35 = true := jok_sub oo_MM_init_0 17 1 rfl rfl
def k_MM_init_39 : List jI := [(.putfield 27, 3, (11, 6, 2308, 3, 0)), (.aload_n 0, 1, (0, 0, 0, 0, 0)), (.ldc 31, 2, (0, 0, 2301, 32768, 0))]
theorem o_MM_init_39 : jokL "ChessHouseModel" lw_tbl jcl jtb 1 true prog_15_method_1_code 39 k_MM_init_39 = true := jok_sub oo_MM_init_0 19 3 rfl rfl
def k_MM_init_47 : List jI := [(.putfield 32, 3, (11, 14, 2316, 3, 0)), (.aload_n 0, 1, (0, 0, 0, 0, 0)), (.ldc 31, 2, (0, 0, 2301, 32768, 0))]
theorem o_MM_init_47 : jokL "ChessHouseModel" lw_tbl jcl jtb 1 true prog_15_method_1_code 47 k_MM_init_47 = true := jok_sub oo_MM_init_0 23 3 rfl rfl
def k_MM_init_55 : List jI := [(.putfield 36, 3, (11, 15, 2317, 3, 0)), (.aload_n 0, 1, (0, 0, 0, 0, 0)), (.sipush 301, 3, (0, 0, 0, 301, 0))]
theorem o_MM_init_55 : jokL "ChessHouseModel" lw_tbl jcl jtb 1 true prog_15_method_1_code 55 k_MM_init_55 = true := jok_sub oo_MM_init_0 27 3 rfl rfl
def k_MM_init_64 : List jI := [(.putfield 39, 3, (11, 17, 2319, 3, 0)), (.aload_n 0, 1, (0, 0, 0, 0, 0)), (.bipush 100, 2, (0, 0, 0, 100, 0))]
theorem o_MM_init_64 : jokL "ChessHouseModel" lw_tbl jcl jtb 1 true prog_15_method_1_code 64 k_MM_init_64 = true := jok_sub oo_MM_init_0 31 3 rfl rfl
def k_MM_init_72 : List jI := [(.putfield 42, 3, (11, 18, 2320, 3, 0))]
theorem o_MM_init_72 : jokL "ChessHouseModel" lw_tbl jcl jtb 1 true prog_15_method_1_code 72 k_MM_init_72 = true := jok_sub oo_MM_init_0 35 1 rfl rfl
theorem d_MM_init_1 : decode prog_15_method_1_code 1 = .ok (.invokespecial 1, 3) := by decide +kernel
theorem d_MM_init_7 : decode prog_15_method_1_code 7 = .ok (.newarray .byte, 2) := by decide +kernel
theorem d_MM_init_15 : decode prog_15_method_1_code 15 = .ok (.newarray .byte, 2) := by decide +kernel
theorem d_MM_init_21 : decode prog_15_method_1_code 21 = .ok (.new 17, 3) := by decide +kernel
theorem d_MM_init_25 : decode prog_15_method_1_code 25 = .ok (.invokespecial 19, 3) := by decide +kernel
theorem q_MM_init_25 : jlm lw_tbl 1910 "ChessHouseModel" 19 ⟨"ChessHouseModel$Texts", "<init>", "()V"⟩ = true := by decide +kernel
theorem d_MM_init_32 : decode prog_15_method_1_code 32 = .ok (.new 24, 3) := by decide +kernel
theorem d_MM_init_36 : decode prog_15_method_1_code 36 = .ok (.invokespecial 26, 3) := by decide +kernel
theorem q_MM_init_36 : jlm lw_tbl 2165 "ChessHouseModel" 26 ⟨"ChessHouseModel$Board", "<init>", "()V"⟩ = true := by decide +kernel
theorem d_MM_init_45 : decode prog_15_method_1_code 45 = .ok (.newarray .int, 2) := by decide +kernel
theorem d_MM_init_53 : decode prog_15_method_1_code 53 = .ok (.newarray .int, 2) := by decide +kernel
theorem d_MM_init_62 : decode prog_15_method_1_code 62 = .ok (.newarray .int, 2) := by decide +kernel
theorem d_MM_init_70 : decode prog_15_method_1_code 70 = .ok (.newarray .char, 2) := by decide +kernel
theorem d_MM_init_75 : decode prog_15_method_1_code 75 = .ok (.return_, 1) := by decide +kernel
def y_MM_lay : jY := (⟨"ChessHouseModel", "lay", "(I)V"⟩, prog_15_method_3_code, 3, none)
theorem m_MM_lay : jmth lw_tbl y_MM_lay 1 := ⟨jTA_in (wi := 2371) (by decide +kernel) rfl, jTA_in (wi := 314) (by decide +kernel) rfl, by decide, by decide, by decide +kernel⟩
theorem i_MM_lay : Jvm.Cond.instanceMethod y_MM_lay.1 ∈ jTA lw_tbl := jTA_in (wi := 2370) (by decide +kernel) rfl
theorem e_MM_lay : Jvm.Cond.selects y_MM_lay.1.cls y_MM_lay.1 y_MM_lay.1 ∈ jTA lw_tbl := jTA_in (wi := 127) (by decide +kernel) rfl
def kk_MM_lay_0 : List jI := [(.bipush 24, 2, (0, 0, 0, 24, 0)), (.istore_n 2, 1, (2, 0, 0, 0, 0)), (.iload_n 2, 1, (2, 0, 0, 0, 0)), (.ifCond .lt 32, 3, (36, 0, 0, 0, 0)), (.aload_n 0, 1, (0, 0, 0, 0, 0)), (.getfield 10, 3, (11, 2, 2304, 0, 0)), (.aload_n 0, 1, (0, 0, 0, 0, 0)), (.getfield 50, 3, (11, 1, 2303, 0, 0)), (.iload_n 1, 1, (1, 0, 0, 0, 0)), (.iload_n 2, 1, (2, 0, 0, 0, 0)), (.ishr, 1, (0, 0, 0, 0, 0)), (.i2b, 1, (0, 0, 0, 0, 0)), (.bastore, 1, (0, 0, 0, 0, 0)), (.aload_n 0, 1, (0, 0, 0, 0, 0)), (.dup, 1, (0, 0, 0, 0, 0)), (.getfield 50, 3, (11, 1, 2303, 0, 0)), (.iconst 1, 1, (0, 0, 0, 1, 0)), (.iadd, 1, (0, 0, 0, 0, 0)), (.putfield 50, 3, (11, 1, 2303, 0, 0)), (.iinc 2 (-8), 3, (0, 0, 0, (-8), 0)), (.goto (-30), 3, (3, 0, 0, 0, 0)), (.return_, 1, (0, 0, 0, 0, 0))]
theorem oo_MM_lay_0 : jokL "ChessHouseModel" lw_tbl jcl jtb 3 false prog_15_method_3_code 0 kk_MM_lay_0 = true := by decide +kernel
def k_MM_lay_0 : List jI := [(.bipush 24, 2, (0, 0, 0, 24, 0)), (.istore_n 2, 1, (2, 0, 0, 0, 0))]
theorem o_MM_lay_0 : jokL "ChessHouseModel" lw_tbl jcl jtb 3 false prog_15_method_3_code 0 k_MM_lay_0 = true := jok_sub oo_MM_lay_0 0 2 rfl rfl
def k_MM_lay_3 : List jI := [(.iload_n 2, 1, (2, 0, 0, 0, 0)), (.ifCond .lt 32, 3, (36, 0, 0, 0, 0)), (.aload_n 0, 1, (0, 0, 0, 0, 0)), (.getfield 10, 3, (11, 2, 2304, 0, 0)), (.aload_n 0, 1, (0, 0, 0, 0, 0)), (.getfield 50, 3, (11, 1, 2303, 0, 0)), (.iload_n 1, 1, (1, 0, 0, 0, 0)), (.iload_n 2, 1, (2, 0, 0, 0, 0)), (.ishr, 1, (0, 0, 0, 0, 0)), (.i2b, 1, (0, 0, 0, 0, 0)), (.bastore, 1, (0, 0, 0, 0, 0)), (.aload_n 0, 1, (0, 0, 0, 0, 0)), (.dup, 1, (0, 0, 0, 0, 0)), (.getfield 50, 3, (11, 1, 2303, 0, 0)), (.iconst 1, 1, (0, 0, 0, 1, 0)), (.iadd, 1, (0, 0, 0, 0, 0)), (.putfield 50, 3, (11, 1, 2303, 0, 0)), (.iinc 2 (-8), 3, (0, 0, 0, (-8), 0)), (.goto (-30), 3, (3, 0, 0, 0, 0))]
theorem o_MM_lay_3 : jokL "ChessHouseModel" lw_tbl jcl jtb 3 false prog_15_method_3_code 3 k_MM_lay_3 = true := jok_sub oo_MM_lay_0 2 19 rfl rfl
theorem d_MM_lay_36 : decode prog_15_method_3_code 36 = .ok (.return_, 1) := by decide +kernel
def y_MM_feed : jY := (⟨"ChessHouseModel", "feed", "(IIIII)V"⟩, prog_15_method_4_code, 6, none)
theorem m_MM_feed : jmth lw_tbl y_MM_feed 5 := ⟨jTA_in (wi := 2367) (by decide +kernel) rfl, jTA_in (wi := 314) (by decide +kernel) rfl, by decide, by decide, by decide +kernel⟩
theorem i_MM_feed : Jvm.Cond.instanceMethod y_MM_feed.1 ∈ jTA lw_tbl := jTA_in (wi := 2365) (by decide +kernel) rfl
theorem e_MM_feed : Jvm.Cond.selects y_MM_feed.1.cls y_MM_feed.1 y_MM_feed.1 ∈ jTA lw_tbl := jTA_in (wi := 2366) (by decide +kernel) rfl
def kk_MM_feed_0 : List jI := [(.aload_n 0, 1, (0, 0, 0, 0, 0)), (.aload_n 0, 1, (0, 0, 0, 0, 0)), (.getfield 50, 3, (11, 1, 2303, 0, 0)), (.bipush 20, 2, (0, 0, 0, 20, 0)), (.iadd, 1, (0, 0, 0, 0, 0)), (.ldc 9, 2, (0, 0, 1907, 65536, 0)), (.if_icmp .le 7, 3, (17, 0, 0, 0, 0)), (.iconst 1, 1, (0, 0, 0, 1, 0)), (.goto 4, 3, (18, 0, 0, 0, 0)), (.iconst 0, 1, (0, 0, 0, 0, 0)), (.putfield 46, 3, (11, 0, 2302, 0, 0)), (.aload_n 0, 1, (0, 0, 0, 0, 0)), (.getfield 46, 3, (11, 0, 2302, 0, 0)), (.ifCond .ne 30, 3, (55, 0, 0, 0, 0)), (.aload_n 0, 1, (0, 0, 0, 0, 0)), (.iload_n 1, 1, (1, 0, 0, 0, 0)), (.invokevirtual 53, 3, (0, 0, 0, 0, 0)), (.aload_n 0, 1, (0, 0, 0, 0, 0)), (.iload_n 2, 1, (2, 0, 0, 0, 0)), (.invokevirtual 53, 3, (0, 0, 0, 0, 0)), (.aload_n 0, 1, (0, 0, 0, 0, 0)), (.iload_n 3, 1, (3, 0, 0, 0, 0)), (.invokevirtual 53, 3, (0, 0, 0, 0, 0)), (.aload_n 0, 1, (0, 0, 0, 0, 0)), (.iload 4, 2, (4, 0, 0, 0, 0)), (.invokevirtual 53, 3, (0, 0, 0, 0, 0)), (.aload_n 0, 1, (0, 0, 0, 0, 0)), (.iload 5, 2, (5, 0, 0, 0, 0)), (.invokevirtual 53, 3, (0, 0, 0, 0, 0)), (.return_, 1, (0, 0, 0, 0, 0))]
theorem oo_MM_feed_0 : jokL "ChessHouseModel" lw_tbl jcl jtb 6 false prog_15_method_4_code 0 kk_MM_feed_0 = true := by decide +kernel
def k_MM_feed_0 : List jI := [(.aload_n 0, 1, (0, 0, 0, 0, 0)), (.aload_n 0, 1, (0, 0, 0, 0, 0)), (.getfield 50, 3, (11, 1, 2303, 0, 0)), (.bipush 20, 2, (0, 0, 0, 20, 0)), (.iadd, 1, (0, 0, 0, 0, 0)), (.ldc 9, 2, (0, 0, 1907, 65536, 0)), (.if_icmp .le 7, 3, (17, 0, 0, 0, 0)), (.iconst 1, 1, (0, 0, 0, 1, 0)), (.goto 4, 3, (18, 0, 0, 0, 0))]
theorem o_MM_feed_0 : jokL "ChessHouseModel" lw_tbl jcl jtb 6 false prog_15_method_4_code 0 k_MM_feed_0 = true := jok_sub oo_MM_feed_0 0 9 rfl rfl
def k_MM_feed_17 : List jI := [(.iconst 0, 1, (0, 0, 0, 0, 0))]
theorem o_MM_feed_17 : jokL "ChessHouseModel" lw_tbl jcl jtb 6 false prog_15_method_4_code 17 k_MM_feed_17 = true := jok_sub oo_MM_feed_0 9 1 rfl rfl
def k_MM_feed_18 : List jI := [(.putfield 46, 3, (11, 0, 2302, 0, 0)), (.aload_n 0, 1, (0, 0, 0, 0, 0)), (.getfield 46, 3, (11, 0, 2302, 0, 0)), (.ifCond .ne 30, 3, (55, 0, 0, 0, 0)), (.aload_n 0, 1, (0, 0, 0, 0, 0)), (.iload_n 1, 1, (1, 0, 0, 0, 0))]
theorem o_MM_feed_18 : jokL "ChessHouseModel" lw_tbl jcl jtb 6 false prog_15_method_4_code 18 k_MM_feed_18 = true := jok_sub oo_MM_feed_0 10 6 rfl rfl
def k_MM_feed_33 : List jI := [(.aload_n 0, 1, (0, 0, 0, 0, 0)), (.iload_n 2, 1, (2, 0, 0, 0, 0))]
theorem o_MM_feed_33 : jokL "ChessHouseModel" lw_tbl jcl jtb 6 false prog_15_method_4_code 33 k_MM_feed_33 = true := jok_sub oo_MM_feed_0 17 2 rfl rfl
def k_MM_feed_38 : List jI := [(.aload_n 0, 1, (0, 0, 0, 0, 0)), (.iload_n 3, 1, (3, 0, 0, 0, 0))]
theorem o_MM_feed_38 : jokL "ChessHouseModel" lw_tbl jcl jtb 6 false prog_15_method_4_code 38 k_MM_feed_38 = true := jok_sub oo_MM_feed_0 20 2 rfl rfl
def k_MM_feed_43 : List jI := [(.aload_n 0, 1, (0, 0, 0, 0, 0)), (.iload 4, 2, (4, 0, 0, 0, 0))]
theorem o_MM_feed_43 : jokL "ChessHouseModel" lw_tbl jcl jtb 6 false prog_15_method_4_code 43 k_MM_feed_43 = true := jok_sub oo_MM_feed_0 23 2 rfl rfl
def k_MM_feed_49 : List jI := [(.aload_n 0, 1, (0, 0, 0, 0, 0)), (.iload 5, 2, (5, 0, 0, 0, 0))]
theorem o_MM_feed_49 : jokL "ChessHouseModel" lw_tbl jcl jtb 6 false prog_15_method_4_code 49 k_MM_feed_49 = true := jok_sub oo_MM_feed_0 26 2 rfl rfl
theorem d_MM_feed_30 : decode prog_15_method_4_code 30 = .ok (.invokevirtual 53, 3) := by decide +kernel
theorem q_MM_feed_30 : jlm lw_tbl 2368 "ChessHouseModel" 53 ⟨"ChessHouseModel", "lay", "(I)V"⟩ = true := by decide +kernel
theorem d_MM_feed_35 : decode prog_15_method_4_code 35 = .ok (.invokevirtual 53, 3) := by decide +kernel
theorem q_MM_feed_35 : jlm lw_tbl 2368 "ChessHouseModel" 53 ⟨"ChessHouseModel", "lay", "(I)V"⟩ = true := by decide +kernel
theorem d_MM_feed_40 : decode prog_15_method_4_code 40 = .ok (.invokevirtual 53, 3) := by decide +kernel
theorem q_MM_feed_40 : jlm lw_tbl 2368 "ChessHouseModel" 53 ⟨"ChessHouseModel", "lay", "(I)V"⟩ = true := by decide +kernel
theorem d_MM_feed_46 : decode prog_15_method_4_code 46 = .ok (.invokevirtual 53, 3) := by decide +kernel
theorem q_MM_feed_46 : jlm lw_tbl 2368 "ChessHouseModel" 53 ⟨"ChessHouseModel", "lay", "(I)V"⟩ = true := by decide +kernel
theorem d_MM_feed_52 : decode prog_15_method_4_code 52 = .ok (.invokevirtual 53, 3) := by decide +kernel
theorem q_MM_feed_52 : jlm lw_tbl 2368 "ChessHouseModel" 53 ⟨"ChessHouseModel", "lay", "(I)V"⟩ = true := by decide +kernel
theorem d_MM_feed_55 : decode prog_15_method_4_code 55 = .ok (.return_, 1) := by decide +kernel
def y_MM_size : jY := (⟨"ChessHouseModel", "size", "()I"⟩, prog_15_method_7_code, 1, (some .int))
theorem m_MM_size : jmth lw_tbl y_MM_size 0 := ⟨jTA_in (wi := 3292) (by decide +kernel) rfl, jTA_in (wi := 314) (by decide +kernel) rfl, by decide, by decide, by decide +kernel⟩
theorem i_MM_size : Jvm.Cond.instanceMethod y_MM_size.1 ∈ jTA lw_tbl := jTA_in (wi := 3290) (by decide +kernel) rfl
theorem e_MM_size : Jvm.Cond.selects y_MM_size.1.cls y_MM_size.1 y_MM_size.1 ∈ jTA lw_tbl := jTA_in (wi := 3291) (by decide +kernel) rfl
def kk_MM_size_0 : List jI := [(.aload_n 0, 1, (0, 0, 0, 0, 0)), (.iconst 0, 1, (0, 0, 0, 0, 0)), (.putfield 46, 3, (11, 0, 2302, 0, 0)), (.aload_n 0, 1, (0, 0, 0, 0, 0)), (.getfield 57, 3, (11, 3, 2305, 0, 0)), (.ireturn, 1, (0, 0, 0, 0, 0))]
theorem oo_MM_size_0 : jokL "ChessHouseModel" lw_tbl jcl jtb 1 false prog_15_method_7_code 0 kk_MM_size_0 = true := by decide +kernel
def k_MM_size_0 : List jI := [(.aload_n 0, 1, (0, 0, 0, 0, 0)), (.iconst 0, 1, (0, 0, 0, 0, 0)), (.putfield 46, 3, (11, 0, 2302, 0, 0)), (.aload_n 0, 1, (0, 0, 0, 0, 0)), (.getfield 57, 3, (11, 3, 2305, 0, 0))]
theorem o_MM_size_0 : jokL "ChessHouseModel" lw_tbl jcl jtb 1 false prog_15_method_7_code 0 k_MM_size_0 = true := jok_sub oo_MM_size_0 0 5 rfl rfl
theorem d_MM_size_9 : decode prog_15_method_7_code 9 = .ok (.ireturn, 1) := by decide +kernel
def y_MM_out : jY := (⟨"ChessHouseModel", "out", "(I)I"⟩, prog_15_method_8_code, 2, (some .int))
theorem m_MM_out : jmth lw_tbl y_MM_out 1 := ⟨jTA_in (wi := 3296) (by decide +kernel) rfl, jTA_in (wi := 314) (by decide +kernel) rfl, by decide, by decide, by decide +kernel⟩
theorem i_MM_out : Jvm.Cond.instanceMethod y_MM_out.1 ∈ jTA lw_tbl := jTA_in (wi := 3294) (by decide +kernel) rfl
theorem e_MM_out : Jvm.Cond.selects y_MM_out.1.cls y_MM_out.1 y_MM_out.1 ∈ jTA lw_tbl := jTA_in (wi := 3295) (by decide +kernel) rfl
def kk_MM_out_0 : List jI := [(.aload_n 0, 1, (0, 0, 0, 0, 0)), (.iload_n 1, 1, (1, 0, 0, 0, 0)), (.ifCond .lt 11, 3, (13, 0, 0, 0, 0)), (.iload_n 1, 1, (1, 0, 0, 0, 0)), (.aload_n 0, 1, (0, 0, 0, 0, 0)), (.getfield 57, 3, (11, 3, 2305, 0, 0)), (.if_icmp .lt 7, 3, (17, 0, 0, 0, 0)), (.iconst 1, 1, (0, 0, 0, 1, 0)), (.goto 4, 3, (18, 0, 0, 0, 0)), (.iconst 0, 1, (0, 0, 0, 0, 0)), (.putfield 46, 3, (11, 0, 2302, 0, 0)), (.aload_n 0, 1, (0, 0, 0, 0, 0)), (.getfield 46, 3, (11, 0, 2302, 0, 0)), (.ifCond .le 7, 3, (32, 0, 0, 0, 0)), (.iconst 0, 1, (0, 0, 0, 0, 0)), (.goto 13, 3, (42, 0, 0, 0, 0)), (.aload_n 0, 1, (0, 0, 0, 0, 0)), (.getfield 14, 3, (11, 4, 2306, 0, 0)), (.iload_n 1, 1, (1, 0, 0, 0, 0)), (.baload, 1, (0, 0, 0, 0, 0)), (.sipush 255, 3, (0, 0, 0, 255, 0)), (.iand, 1, (0, 0, 0, 0, 0)), (.ireturn, 1, (0, 0, 0, 0, 0))]
theorem oo_MM_out_0 : jokL "ChessHouseModel" lw_tbl jcl jtb 2 false prog_15_method_8_code 0 kk_MM_out_0 = true := by decide +kernel
def k_MM_out_0 : List jI := [(.aload_n 0, 1, (0, 0, 0, 0, 0)), (.iload_n 1, 1, (1, 0, 0, 0, 0)), (.ifCond .lt 11, 3, (13, 0, 0, 0, 0)), (.iload_n 1, 1, (1, 0, 0, 0, 0)), (.aload_n 0, 1, (0, 0, 0, 0, 0)), (.getfield 57, 3, (11, 3, 2305, 0, 0)), (.if_icmp .lt 7, 3, (17, 0, 0, 0, 0))]
theorem o_MM_out_0 : jokL "ChessHouseModel" lw_tbl jcl jtb 2 false prog_15_method_8_code 0 k_MM_out_0 = true := jok_sub oo_MM_out_0 0 7 rfl rfl
def k_MM_out_13 : List jI := [(.iconst 1, 1, (0, 0, 0, 1, 0)), (.goto 4, 3, (18, 0, 0, 0, 0))]
theorem o_MM_out_13 : jokL "ChessHouseModel" lw_tbl jcl jtb 2 false prog_15_method_8_code 13 k_MM_out_13 = true := jok_sub oo_MM_out_0 7 2 rfl rfl
def k_MM_out_17 : List jI := [(.iconst 0, 1, (0, 0, 0, 0, 0))]
theorem o_MM_out_17 : jokL "ChessHouseModel" lw_tbl jcl jtb 2 false prog_15_method_8_code 17 k_MM_out_17 = true := jok_sub oo_MM_out_0 9 1 rfl rfl
def k_MM_out_18 : List jI := [(.putfield 46, 3, (11, 0, 2302, 0, 0)), (.aload_n 0, 1, (0, 0, 0, 0, 0)), (.getfield 46, 3, (11, 0, 2302, 0, 0)), (.ifCond .le 7, 3, (32, 0, 0, 0, 0)), (.iconst 0, 1, (0, 0, 0, 0, 0)), (.goto 13, 3, (42, 0, 0, 0, 0))]
theorem o_MM_out_18 : jokL "ChessHouseModel" lw_tbl jcl jtb 2 false prog_15_method_8_code 18 k_MM_out_18 = true := jok_sub oo_MM_out_0 10 6 rfl rfl
def k_MM_out_32 : List jI := [(.aload_n 0, 1, (0, 0, 0, 0, 0)), (.getfield 14, 3, (11, 4, 2306, 0, 0)), (.iload_n 1, 1, (1, 0, 0, 0, 0)), (.baload, 1, (0, 0, 0, 0, 0)), (.sipush 255, 3, (0, 0, 0, 255, 0)), (.iand, 1, (0, 0, 0, 0, 0))]
theorem o_MM_out_32 : jokL "ChessHouseModel" lw_tbl jcl jtb 2 false prog_15_method_8_code 32 k_MM_out_32 = true := jok_sub oo_MM_out_0 16 6 rfl rfl
theorem d_MM_out_42 : decode prog_15_method_8_code 42 = .ok (.ireturn, 1) := by decide +kernel
def y_MM_thrown : jY := (⟨"ChessHouseModel", "thrown", "()I"⟩, prog_15_method_2_code, 1, (some .int))
theorem m_MM_thrown : jmth lw_tbl y_MM_thrown 0 := ⟨jTA_in (wi := 2363) (by decide +kernel) rfl, jTA_in (wi := 314) (by decide +kernel) rfl, by decide, by decide, by decide +kernel⟩
theorem i_MM_thrown : Jvm.Cond.instanceMethod y_MM_thrown.1 ∈ jTA lw_tbl := jTA_in (wi := 2361) (by decide +kernel) rfl
theorem e_MM_thrown : Jvm.Cond.selects y_MM_thrown.1.cls y_MM_thrown.1 y_MM_thrown.1 ∈ jTA lw_tbl := jTA_in (wi := 2362) (by decide +kernel) rfl
def kk_MM_thrown_0 : List jI := [(.aload_n 0, 1, (0, 0, 0, 0, 0)), (.getfield 46, 3, (11, 0, 2302, 0, 0)), (.ireturn, 1, (0, 0, 0, 0, 0))]
theorem oo_MM_thrown_0 : jokL "ChessHouseModel" lw_tbl jcl jtb 1 false prog_15_method_2_code 0 kk_MM_thrown_0 = true := by decide +kernel
def k_MM_thrown_0 : List jI := [(.aload_n 0, 1, (0, 0, 0, 0, 0)), (.getfield 46, 3, (11, 0, 2302, 0, 0))]
theorem o_MM_thrown_0 : jokL "ChessHouseModel" lw_tbl jcl jtb 1 false prog_15_method_2_code 0 k_MM_thrown_0 = true := jok_sub oo_MM_thrown_0 0 2 rfl rfl
theorem d_MM_thrown_4 : decode prog_15_method_2_code 4 = .ok (.ireturn, 1) := by decide +kernel
def y_MM_end : jY := (⟨"ChessHouseModel", "end", "(I)I"⟩, prog_15_method_5_code, 2, (some .int))
theorem m_MM_end : jmth lw_tbl y_MM_end 1 := ⟨jTA_in (wi := 2375) (by decide +kernel) rfl, jTA_in (wi := 314) (by decide +kernel) rfl, by decide, by decide, by decide +kernel⟩
theorem i_MM_end : Jvm.Cond.instanceMethod y_MM_end.1 ∈ jTA lw_tbl := jTA_in (wi := 2373) (by decide +kernel) rfl
theorem e_MM_end : Jvm.Cond.selects y_MM_end.1.cls y_MM_end.1 y_MM_end.1 ∈ jTA lw_tbl := jTA_in (wi := 2374) (by decide +kernel) rfl
def kk_MM_end_0 : List jI := [(.aload_n 0, 1, (0, 0, 0, 0, 0)), (.iload_n 1, 1, (1, 0, 0, 0, 0)), (.ifCond .lt 11, 3, (13, 0, 0, 0, 0)), (.iload_n 1, 1, (1, 0, 0, 0, 0)), (.aload_n 0, 1, (0, 0, 0, 0, 0)), (.getfield 50, 3, (11, 1, 2303, 0, 0)), (.if_icmp .le 7, 3, (17, 0, 0, 0, 0)), (.iconst 1, 1, (0, 0, 0, 1, 0)), (.goto 4, 3, (18, 0, 0, 0, 0)), (.iconst 0, 1, (0, 0, 0, 0, 0)), (.putfield 46, 3, (11, 0, 2302, 0, 0)), (.aload_n 0, 1, (0, 0, 0, 0, 0)), (.getfield 46, 3, (11, 0, 2302, 0, 0)), (.ifCond .le 5, 3, (30, 0, 0, 0, 0)), (.iconst 0, 1, (0, 0, 0, 0, 0)), (.ireturn, 1, (0, 0, 0, 0, 0)), (.aload_n 0, 1, (0, 0, 0, 0, 0)), (.iconst 0, 1, (0, 0, 0, 0, 0)), (.putfield 57, 3, (11, 3, 2305, 0, 0)), (.aload_n 0, 1, (0, 0, 0, 0, 0)), (.iconst 0, 1, (0, 0, 0, 0, 0)), (.putfield 60, 3, (11, 12, 2314, 0, 0)), (.aload_n 0, 1, (0, 0, 0, 0, 0)), (.iconst 0, 1, (0, 0, 0, 0, 0)), (.putfield 63, 3, (11, 10, 2312, 0, 0)), (.aload_n 0, 1, (0, 0, 0, 0, 0)), (.iload_n 1, 1, (1, 0, 0, 0, 0)), (.putfield 66, 3, (11, 11, 2313, 0, 0)), (.aload_n 0, 1, (0, 0, 0, 0, 0)), (.getfield 63, 3, (11, 10, 2312, 0, 0)), (.aload_n 0, 1, (0, 0, 0, 0, 0)), (.getfield 66, 3, (11, 11, 2313, 0, 0)), (.if_icmp .ge 25, 3, (83, 0, 0, 0, 0)), (.aload_n 0, 1, (0, 0, 0, 0, 0)), (.invokevirtual 69, 3, (0, 0, 0, 0, 0)), (.aload_n 0, 1, (0, 0, 0, 0, 0)), (.getfield 72, 3, (11, 9, 2311, 0, 0)), (.aload_n 0, 1, (0, 0, 0, 0, 0)), (.getfield 75, 3, (11, 8, 2310, 0, 0)), (.if_icmp .le (-23), 3, (50, 0, 0, 0, 0)), (.aload_n 0, 1, (0, 0, 0, 0, 0)), (.invokevirtual 78, 3, (0, 0, 0, 0, 0)), (.goto (-30), 3, (50, 0, 0, 0, 0)), (.aload_n 0, 1, (0, 0, 0, 0, 0)), (.iconst 0, 1, (0, 0, 0, 0, 0)), (.putfield 50, 3, (11, 1, 2303, 0, 0)), (.aload_n 0, 1, (0, 0, 0, 0, 0)), (.getfield 60, 3, (11, 12, 2314, 0, 0)), (.ireturn, 1, (0, 0, 0, 0, 0))]
theorem oo_MM_end_0 : jokL "ChessHouseModel" lw_tbl jcl jtb 2 false prog_15_method_5_code 0 kk_MM_end_0 = true := by decide +kernel
def k_MM_end_0 : List jI := [(.aload_n 0, 1, (0, 0, 0, 0, 0)), (.iload_n 1, 1, (1, 0, 0, 0, 0)), (.ifCond .lt 11, 3, (13, 0, 0, 0, 0)), (.iload_n 1, 1, (1, 0, 0, 0, 0)), (.aload_n 0, 1, (0, 0, 0, 0, 0)), (.getfield 50, 3, (11, 1, 2303, 0, 0)), (.if_icmp .le 7, 3, (17, 0, 0, 0, 0))]
theorem o_MM_end_0 : jokL "ChessHouseModel" lw_tbl jcl jtb 2 false prog_15_method_5_code 0 k_MM_end_0 = true := jok_sub oo_MM_end_0 0 7 rfl rfl
def k_MM_end_13 : List jI := [(.iconst 1, 1, (0, 0, 0, 1, 0)), (.goto 4, 3, (18, 0, 0, 0, 0))]
theorem o_MM_end_13 : jokL "ChessHouseModel" lw_tbl jcl jtb 2 false prog_15_method_5_code 13 k_MM_end_13 = true := jok_sub oo_MM_end_0 7 2 rfl rfl
def k_MM_end_17 : List jI := [(.iconst 0, 1, (0, 0, 0, 0, 0))]
theorem o_MM_end_17 : jokL "ChessHouseModel" lw_tbl jcl jtb 2 false prog_15_method_5_code 17 k_MM_end_17 = true := jok_sub oo_MM_end_0 9 1 rfl rfl
def k_MM_end_18 : List jI := [(.putfield 46, 3, (11, 0, 2302, 0, 0)), (.aload_n 0, 1, (0, 0, 0, 0, 0)), (.getfield 46, 3, (11, 0, 2302, 0, 0)), (.ifCond .le 5, 3, (30, 0, 0, 0, 0)), (.iconst 0, 1, (0, 0, 0, 0, 0))]
theorem o_MM_end_18 : jokL "ChessHouseModel" lw_tbl jcl jtb 2 false prog_15_method_5_code 18 k_MM_end_18 = true := jok_sub oo_MM_end_0 10 5 rfl rfl
def k_MM_end_30 : List jI := [(.aload_n 0, 1, (0, 0, 0, 0, 0)), (.iconst 0, 1, (0, 0, 0, 0, 0)), (.putfield 57, 3, (11, 3, 2305, 0, 0)), (.aload_n 0, 1, (0, 0, 0, 0, 0)), (.iconst 0, 1, (0, 0, 0, 0, 0)), (.putfield 60, 3, (11, 12, 2314, 0, 0)), (.aload_n 0, 1, (0, 0, 0, 0, 0)), (.iconst 0, 1, (0, 0, 0, 0, 0)), (.putfield 63, 3, (11, 10, 2312, 0, 0)), (.aload_n 0, 1, (0, 0, 0, 0, 0)), (.iload_n 1, 1, (1, 0, 0, 0, 0)), (.putfield 66, 3, (11, 11, 2313, 0, 0))]
theorem o_MM_end_30 : jokL "ChessHouseModel" lw_tbl jcl jtb 2 false prog_15_method_5_code 30 k_MM_end_30 = true := jok_sub oo_MM_end_0 16 12 rfl rfl
def k_MM_end_50 : List jI := [(.aload_n 0, 1, (0, 0, 0, 0, 0)), (.getfield 63, 3, (11, 10, 2312, 0, 0)), (.aload_n 0, 1, (0, 0, 0, 0, 0)), (.getfield 66, 3, (11, 11, 2313, 0, 0)), (.if_icmp .ge 25, 3, (83, 0, 0, 0, 0)), (.aload_n 0, 1, (0, 0, 0, 0, 0))]
theorem o_MM_end_50 : jokL "ChessHouseModel" lw_tbl jcl jtb 2 false prog_15_method_5_code 50 k_MM_end_50 = true := jok_sub oo_MM_end_0 28 6 rfl rfl
def k_MM_end_65 : List jI := [(.aload_n 0, 1, (0, 0, 0, 0, 0)), (.getfield 72, 3, (11, 9, 2311, 0, 0)), (.aload_n 0, 1, (0, 0, 0, 0, 0)), (.getfield 75, 3, (11, 8, 2310, 0, 0)), (.if_icmp .le (-23), 3, (50, 0, 0, 0, 0)), (.aload_n 0, 1, (0, 0, 0, 0, 0))]
theorem o_MM_end_65 : jokL "ChessHouseModel" lw_tbl jcl jtb 2 false prog_15_method_5_code 65 k_MM_end_65 = true := jok_sub oo_MM_end_0 35 6 rfl rfl
def k_MM_end_80 : List jI := [(.goto (-30), 3, (50, 0, 0, 0, 0))]
theorem o_MM_end_80 : jokL "ChessHouseModel" lw_tbl jcl jtb 2 false prog_15_method_5_code 80 k_MM_end_80 = true := jok_sub oo_MM_end_0 42 1 rfl rfl
def k_MM_end_83 : List jI := [(.aload_n 0, 1, (0, 0, 0, 0, 0)), (.iconst 0, 1, (0, 0, 0, 0, 0)), (.putfield 50, 3, (11, 1, 2303, 0, 0)), (.aload_n 0, 1, (0, 0, 0, 0, 0)), (.getfield 60, 3, (11, 12, 2314, 0, 0))]
theorem o_MM_end_83 : jokL "ChessHouseModel" lw_tbl jcl jtb 2 false prog_15_method_5_code 83 k_MM_end_83 = true := jok_sub oo_MM_end_0 43 5 rfl rfl
theorem d_MM_end_29 : decode prog_15_method_5_code 29 = .ok (.ireturn, 1) := by decide +kernel
theorem d_MM_end_62 : decode prog_15_method_5_code 62 = .ok (.invokevirtual 69, 3) := by decide +kernel
theorem q_MM_end_62 : jlm lw_tbl 2376 "ChessHouseModel" 69 ⟨"ChessHouseModel", "takeLine", "()V"⟩ = true := by decide +kernel
theorem d_MM_end_77 : decode prog_15_method_5_code 77 = .ok (.invokevirtual 78, 3) := by decide +kernel
theorem q_MM_end_77 : jlm lw_tbl 2380 "ChessHouseModel" 78 ⟨"ChessHouseModel", "command", "()V"⟩ = true := by decide +kernel
theorem d_MM_end_92 : decode prog_15_method_5_code 92 = .ok (.ireturn, 1) := by decide +kernel
end
section
set_option maxRecDepth 100000 in
set_option maxHeartbeats 4000000 in
theorem c_MT_kind (l : Launch) (E : jE) (σ : Nat → jcell) (n : Nat) (x : Int32) : jMet l E jcl jtb lw_tbl y_MT_kind { frames := 0, cells := 0, slots := 0, locals := 0 } [.inl x] σ n (fun r σ' n' => r = some (.inl (x &&& 7)) ∧ σ' = σ ∧ n' = n) := by
  refine jMet_of (hY := rfl) false (fun h => by cases h) (by decide) (Nat.le_of_ble_eq_true rfl) [some (.inl x)] rfl ?_
  intro M hl hR X hr
  refine jrun_ok jC X k_MT_kind_0 0 _ _ _ o_MT_kind_0 ?_
  simp only [k_MT_kind_0, jrun, jstep, jldi, jldl, jlda, j1, j2, jl1, jl2, jli, ja1, jbr, jald, jast, jlald, jlast, jalen, jget, jput, jfit, jdup, jdupx, jdupx2, jdup2, jcat, jset1, jset2, jkill, List.getElem?_cons_zero, List.getElem?_cons_succ, List.set_cons_zero, List.set_cons_succ, List.length_cons, List.length_nil, Nat.reduceAdd, Nat.reduceLT, Int32.reduceToNatClampNeg, true_and, and_true, and_self, reduceCtorEq, not_false_eq_true, false_and, and_false, or_false, false_or, true_or, or_true]
  exact jk_iret X d_MT_kind_4 hr rfl (Nat.le_refl _) (Nat.le_refl _) ⟨rfl, rfl, rfl⟩
def mt_sideOf (x : Int32) : Int32 := if x = 0 then -1 else x >>> (3 &&& 31)
set_option maxRecDepth 100000 in
set_option maxHeartbeats 4000000 in
theorem c_MT_sideOf (l : Launch) (E : jE) (σ : Nat → jcell) (n : Nat) (x : Int32) : jMet l E jcl jtb lw_tbl y_MT_sideOf { frames := 0, cells := 0, slots := 0, locals := 0 } [.inl x] σ n (fun r σ' n' => r = some (.inl (mt_sideOf x)) ∧ σ' = σ ∧ n' = n) := by
  refine jMet_of (hY := rfl) false (fun h => by cases h) (by decide) (Nat.le_of_ble_eq_true rfl) [some (.inl x)] rfl ?_
  intro M hl hR X hr
  refine jrun_ok jC X k_MT_sideOf_0 0 _ _ _ o_MT_sideOf_0 ?_
  simp only [k_MT_sideOf_0, jrun, jstep, jldi, jldl, jlda, j1, j2, jl1, jl2, jli, ja1, jbr, jald, jast, jlald, jlast, jalen, jget, jput, jfit, jdup, jdupx, jdupx2, jdup2, jcat, jset1, jset2, jkill, List.getElem?_cons_zero, List.getElem?_cons_succ, List.set_cons_zero, List.set_cons_succ, List.length_cons, List.length_nil, Nat.reduceAdd, Nat.reduceLT, Int32.reduceToNatClampNeg, true_and, and_true, and_self, reduceCtorEq, not_false_eq_true, false_and, and_false, or_false, false_or, true_or, or_true]
  refine ⟨fun h => ?_, fun h => ?_⟩
  · refine jrun_ok jC X k_MT_sideOf_8 8 _ _ _ o_MT_sideOf_8 ?_
    simp only [k_MT_sideOf_8, jrun, jstep, jldi, jldl, jlda, j1, j2, jl1, jl2, jli, ja1, jbr, jald, jast, jlald, jlast, jalen, jget, jput, jfit, jdup, jdupx, jdupx2, jdup2, jcat, jset1, jset2, jkill, List.getElem?_cons_zero, List.getElem?_cons_succ, List.set_cons_zero, List.set_cons_succ, List.length_cons, List.length_nil, Nat.reduceAdd, Nat.reduceLT, Int32.reduceToNatClampNeg, true_and, and_true, and_self, reduceCtorEq, not_false_eq_true, false_and, and_false, or_false, false_or, true_or, or_true]
    exact jk_iret X d_MT_sideOf_11 hr rfl (Nat.le_refl _) (Nat.le_refl _) ⟨by rw [mt_sideOf, if_neg h], rfl, rfl⟩
  · exact jk_iret X d_MT_sideOf_11 hr rfl (Nat.le_refl _) (Nat.le_refl _) ⟨by rw [mt_sideOf, if_pos h], rfl, rfl⟩
def mt_step (a b c : Int32) : Int32 := if a - a / 8 * 8 + b < 0 ∨ 8 ≤ a - a / 8 * 8 + b ∨ a / 8 + c < 0 ∨ 8 ≤ a / 8 + c then -1 else 8 * (a / 8 + c) + (a - a / 8 * 8 + b)
set_option maxRecDepth 100000 in
set_option maxHeartbeats 4000000 in
/-- the square beside, or -1 -/
theorem c_MT_step (l : Launch) (E : jE) (σ : Nat → jcell) (n : Nat) (a b c : Int32) : jMet l E jcl jtb lw_tbl y_MT_step { frames := 0, cells := 0, slots := 0, locals := 0 } [.inl a, .inl b, .inl c] σ n (fun r σ' n' => r = some (.inl (mt_step a b c)) ∧ σ' = σ ∧ n' = n) := by
  refine jMet_of (hY := rfl) false (fun h => by cases h) (by decide) (Nat.le_of_ble_eq_true rfl) [some (.inl a), some (.inl b), some (.inl c), none, none] rfl ?_
  intro M hl hR X hr
  refine jrun_ok jC X k_MT_step_0 0 _ _ _ o_MT_step_0 ?_
  simp only [k_MT_step_0, jrun, jstep, jldi, jldl, jlda, j1, j2, jl1, jl2, jli, ja1, jbr, jald, jast, jlald, jlast, jalen, jget, jput, jfit, jdup, jdupx, jdupx2, jdup2, jcat, jset1, jset2, jkill, List.getElem?_cons_zero, List.getElem?_cons_succ, List.set_cons_zero, List.set_cons_succ, List.length_cons, List.length_nil, Nat.reduceAdd, Nat.reduceLT, Int32.reduceToNatClampNeg, true_and, and_true, and_self, reduceCtorEq, not_false_eq_true, false_and, and_false, or_false, false_or, true_or, or_true]
  have hno : ¬ (8 : Int32) = 0 := by decide
  have hend : ∀ (lv : List (Option jv)), (a - a / 8 * 8 + b < 0 ∨ 8 ≤ a - a / 8 * 8 + b ∨ a / 8 + c < 0 ∨ 8 ≤ a / 8 + c) → jJ E jcl 5 M (jQ E jcl M (fun r σ' n' => r = some (.inl (mt_step a b c)) ∧ σ' = σ ∧ n' = n) 0 0) n 0 0 47 lv [] σ := by
    intro lv h
    refine jrun_ok jC X k_MT_step_47 47 _ _ _ o_MT_step_47 ?_
    simp only [k_MT_step_47, jrun, jstep, jldi, jldl, jlda, j1, j2, jl1, jl2, jli, ja1, jbr, jald, jast, jlald, jlast, jalen, jget, jput, jfit, jdup, jdupx, jdupx2, jdup2, jcat, jset1, jset2, jkill, List.getElem?_cons_zero, List.getElem?_cons_succ, List.set_cons_zero, List.set_cons_succ, List.length_cons, List.length_nil, Nat.reduceAdd, Nat.reduceLT, Int32.reduceToNatClampNeg, true_and, and_true, and_self, reduceCtorEq, not_false_eq_true, false_and, and_false, or_false, false_or, true_or, or_true]
    exact jk_iret X d_MT_step_48 hr rfl (Nat.le_refl _) (Nat.le_refl _) ⟨by rw [mt_step, if_pos h], rfl, rfl⟩
  refine ⟨hno, hno, fun h => hend _ (Or.inl h), fun h1 => ⟨fun h => hend _ (Or.inr (Or.inl h)), fun h2 => ⟨fun h => hend _ (Or.inr (Or.inr (Or.inl h))), fun h3 => ⟨fun h => hend _ (Or.inr (Or.inr (Or.inr h))), fun h4 => ?_⟩⟩⟩⟩
  exact jk_iret X d_MT_step_48 hr rfl (Nat.le_refl _) (Nat.le_refl _) ⟨by rw [mt_step, if_neg (by rintro (h | h | h | h) <;> contradiction)], rfl, rfl⟩
def mt_stands (men : Nat → Int32) (q x : Int32) : Int32 := if q < 0 then 0 else if men q.toNatClampNeg = x then 1 else 0
set_option maxRecDepth 100000 in
set_option maxHeartbeats 4000000 in
theorem c_MT_stands (l : Launch) (E : jE) (σ : Nat → jcell) (n : Nat) (t m : Nat) (fs : List jv) (men : Nat → Int32) (ht : t < n) (h0 : σ t = .inr (12, fs)) (hf : fs[24]? = some (.inr (.inr (some (.inl m))))) (hm : m < n) (h1 : σ m = .inl (.int, 64, .inl men)) (q x : Int32) (hq : q < 0 ∨ vp_in q 64) : jMet l E jcl jtb lw_tbl y_MT_stands { frames := 0, cells := 0, slots := 0, locals := 0 } [.inr (.inr (some (.inl (t)))), .inl q, .inl x] σ n (fun r σ' n' => r = some (.inl (mt_stands men q x)) ∧ σ' = σ ∧ n' = n) := by
  refine jMet_of (hY := rfl) false (fun h => by cases h) (by decide) (Nat.le_of_ble_eq_true rfl) [some (.inr (.inr (some (.inl (t))))), some (.inl q), some (.inl x)] rfl ?_
  intro M hl hR X hr
  refine jrun_ok jC X k_MT_stands_0 0 _ _ _ o_MT_stands_0 ?_
  simp only [k_MT_stands_0, jrun, jstep, jldi, jldl, jlda, j1, j2, jl1, jl2, jli, ja1, jbr, jald, jast, jlald, jlast, jalen, jget, jput, jfit, jdup, jdupx, jdupx2, jdup2, jcat, jset1, jset2, jkill, List.getElem?_cons_zero, List.getElem?_cons_succ, List.set_cons_zero, List.set_cons_succ, List.length_cons, List.length_nil, Nat.reduceAdd, Nat.reduceLT, Int32.reduceToNatClampNeg, true_and, and_true, and_self, reduceCtorEq, not_false_eq_true, false_and, and_false, or_false, false_or, true_or, or_true, h0, hf, h1, ht, hm]
  have hend : ∀ (lv : List (Option jv)), mt_stands men q x = 0 → jJ E jcl 3 M (jQ E jcl M (fun r σ' n' => r = some (.inl (mt_stands men q x)) ∧ σ' = σ ∧ n' = n) 0 0) n 0 0 18 lv [] σ := by
    intro lv h
    refine jrun_ok jC X k_MT_stands_18 18 _ _ _ o_MT_stands_18 ?_
    simp only [k_MT_stands_18, jrun, jstep, jldi, jldl, jlda, j1, j2, jl1, jl2, jli, ja1, jbr, jald, jast, jlald, jlast, jalen, jget, jput, jfit, jdup, jdupx, jdupx2, jdup2, jcat, jset1, jset2, jkill, List.getElem?_cons_zero, List.getElem?_cons_succ, List.set_cons_zero, List.set_cons_succ, List.length_cons, List.length_nil, Nat.reduceAdd, Nat.reduceLT, Int32.reduceToNatClampNeg, true_and, and_true, and_self, reduceCtorEq, not_false_eq_true, false_and, and_false, or_false, false_or, true_or, or_true]
    exact jk_iret X d_MT_stands_19 hr rfl (Nat.le_refl _) (Nat.le_refl _) ⟨by rw [h], rfl, rfl⟩
  refine ⟨fun h => hend _ (by rw [mt_stands, if_pos h]), fun h => ⟨hq.resolve_left h, fun h2 => hend _ (by rw [mt_stands, if_neg h, if_neg h2]), fun h2 => ?_⟩⟩
  exact jk_iret X d_MT_stands_19 hr rfl (Nat.le_refl _) (Nat.le_refl _) ⟨by rw [mt_stands, if_neg h, if_pos h2], rfl, rfl⟩
end
section
/-- answers that change nothing: a truth value, a number -/
def poB (σ : Nat → jcell) (n : Nat) : jPo := fun r σ' n' => ∃ b : Int32, (b = 0 ∨ b = 1) ∧ r = some (.inl b) ∧ σ' = σ ∧ n' = n
def poI (σ : Nat → jcell) (n : Nat) : jPo := fun r σ' n' => ∃ v : Int32, r = some (.inl v) ∧ σ' = σ ∧ n' = n
theorem bo_n {b : Int32} (h : b = 0 ∨ b = 1) : narrow .boolean (.int b) = .int b := by rcases h with rfl | rfl <;> rfl
section JCC
variable {E : jE} {own : String} {Ts : List Jvm.Cond} {cl : List vw_C} {tb : jTb} {nL : Nat} {ini : Bool} {cc : ByteArray} {M : jM} {Q : State → Prop} {n cells slots : Nat}
theorem jk_VB (X : jX E own Ts cl tb nL ini cc M) {rm rc : Room} (hR : M.2.2.2.1 = rm) {pc i wi k ci a : Nat} {Y : jY} (hd : decode cc pc = .ok (.invokevirtual i, 3)) (hw : jlm Ts wi own i Y.1 = true) (hm : jmth Ts Y k) (hin : Jvm.Cond.instanceMethod Y.1 ∈ jTA Ts) (hse : Jvm.Cond.selects Y.1.cls Y.1 Y.1 ∈ jTA Ts) {q : vw_C} (hq : cl[ci]? = some q) (hqc : q.1 = Y.1.cls) {lv : List (Option jv)} {r vals : List jv} {σ : Nat → jcell} {fs : List jv} (ha : a < n) (he : σ a = .inr (ci, fs)) (hM : jMet M.2.1 E cl tb Ts Y rc (.inr (.inr (some (.inl a))) :: vals) σ n (poB σ n)) {st : List jv} (hs : st = vals.reverse ++ .inr (.inr (some (.inl a))) :: r) (hk : vals.length = k)
    (hf : rc.frames + 1 ≤ rm.frames ∧ 8 + (Y.2.2.1 + 11) + rc.locals ≤ rm.locals) (h0 : rc.cells = 0 ∧ rc.slots = 0) (hc : cells ≤ rm.cells ∧ slots ≤ rm.slots) (hz : (r.map jcat).sum ≤ 8) {pc' : Nat} (hp : pc + 3 = pc')
    (kk : ∀ b : Int32, b = 0 ∨ b = 1 → jJ E cl nL M Q n cells slots pc' lv (.inl b :: r) σ) : jJ E cl nL M Q n cells slots pc lv st σ := by
  refine jk_callV X hR hd hw hm hin hse hq hqc ha he hM hs hk hf (by rw [h0.1, h0.2]; exact hc) hz ?_
  rintro _ _ _ ⟨b, hb, rfl, rfl, rfl⟩
  rw [h0.1, h0.2, hp]
  exact kk b hb
theorem jk_VI (X : jX E own Ts cl tb nL ini cc M) {rm rc : Room} (hR : M.2.2.2.1 = rm) {pc i wi k ci a : Nat} {Y : jY} (hd : decode cc pc = .ok (.invokevirtual i, 3)) (hw : jlm Ts wi own i Y.1 = true) (hm : jmth Ts Y k) (hin : Jvm.Cond.instanceMethod Y.1 ∈ jTA Ts) (hse : Jvm.Cond.selects Y.1.cls Y.1 Y.1 ∈ jTA Ts) {q : vw_C} (hq : cl[ci]? = some q) (hqc : q.1 = Y.1.cls) {lv : List (Option jv)} {r vals : List jv} {σ : Nat → jcell} {fs : List jv} (ha : a < n) (he : σ a = .inr (ci, fs)) (hM : jMet M.2.1 E cl tb Ts Y rc (.inr (.inr (some (.inl a))) :: vals) σ n (poI σ n)) {st : List jv} (hs : st = vals.reverse ++ .inr (.inr (some (.inl a))) :: r) (hk : vals.length = k)
    (hf : rc.frames + 1 ≤ rm.frames ∧ 8 + (Y.2.2.1 + 11) + rc.locals ≤ rm.locals) (h0 : rc.cells = 0 ∧ rc.slots = 0) (hc : cells ≤ rm.cells ∧ slots ≤ rm.slots) (hz : (r.map jcat).sum ≤ 8) {pc' : Nat} (hp : pc + 3 = pc')
    (kk : ∀ b : Int32, jJ E cl nL M Q n cells slots pc' lv (.inl b :: r) σ) : jJ E cl nL M Q n cells slots pc lv st σ := by
  refine jk_callV X hR hd hw hm hin hse hq hqc ha he hM hs hk hf (by rw [h0.1, h0.2]; exact hc) hz ?_
  rintro _ _ _ ⟨b, rfl, rfl, rfl⟩
  rw [h0.1, h0.2, hp]
  exact kk b
end JCC
theorem i8_of {x : Int32} (h1 : ¬ x < 0) (h2 : ¬ 8 ≤ x) : ∃ j : Nat, j < 8 ∧ x = nI j := by
  rcases pk_ix x (n := 8) (by omega) with h | h | ⟨j, hj, h⟩
  · exact absurd h h1
  · exact absurd h h2
  · exact ⟨j, hj, h⟩
/-- a step leads off the board, or to one of its squares -/
theorem mt_step_or (a b c : Int32) : mt_step a b c = -1 ∨ ∃ k : Nat, k < 64 ∧ mt_step a b c = nI k := by
  unfold mt_step
  split
  next => exact Or.inl rfl
  next h =>
    refine Or.inr ?_
    simp only [not_or] at h
    obtain ⟨i, hi, e1⟩ := i8_of h.1 h.2.1
    obtain ⟨j, hj, e2⟩ := i8_of h.2.2.1 h.2.2.2
    rw [e1, e2]
    refine ⟨8 * j + i, by omega, ?_⟩
    rw [show (8 : Int32) = nI 8 from rfl, pk_mul, nI_add]
theorem mt_step_in (a b c : Int32) : mt_step a b c < 0 ∨ vp_in (mt_step a b c) 64 := by
  rcases mt_step_or a b c with h | ⟨k, hk, h⟩
  · exact Or.inl (by rw [h]; decide)
  · exact Or.inr (by rw [h]; exact vp_in_nI hk (by omega))
def mt_dirs : List (Int32 × Int32) := [(-1, -1), (-1, 0), (-1, 1), (0, -1), (0, 1), (1, -1), (1, 0), (1, 1)]
def mt_mu (f r : Int32) (k : Nat) : Nat := if f = 1 then 7 - k % 8 else if f = -1 then k % 8 else if r = 1 then 7 - k / 8 else k / 8
set_option maxRecDepth 100000 in
theorem mt_ray : ∀ d ∈ mt_dirs, ∀ k, k < 64 → mt_step (nI k) d.1 d.2 = -1 ∨ (mt_mu d.1 d.2 (mt_step (nI k) d.1 d.2).toNatClampNeg < mt_mu d.1 d.2 k) := by decide +kernel
set_option maxRecDepth 100000 in
set_option maxHeartbeats 4000000 in
/-- the first man in a direction -/
theorem c_MT_met (l : Launch) (E : jE) (σ : Nat → jcell) (n : Nat) (t m : Nat) (fs : List jv) (men : Nat → Int32) (ht : t < n) (h0 : σ t = .inr (12, fs)) (hf : fs[24]? = some (.inr (.inr (some (.inl m))))) (hm : m < n) (h1 : σ m = .inl (.int, 64, .inl men)) (k : Nat) (hk : k < 64) (d : Int32 × Int32) (hd : d ∈ mt_dirs) : jMet l E jcl jtb lw_tbl y_MT_met { frames := 1, cells := 0, slots := 0, locals := 40 } [.inr (.inr (some (.inl (t)))), .inl (nI k), .inl d.1, .inl d.2] σ n (fun r σ' n' => poI σ n r σ' n') := by
  refine jMet_of (hY := rfl) false (fun h => by cases h) (by decide) (Nat.le_of_ble_eq_true rfl) [some (.inr (.inr (some (.inl (t))))), some (.inl (nI k)), some (.inl d.1), some (.inl d.2), none] rfl ?_
  intro M hl hR X hr
  have hend : ∀ s : Int32, (s < 0 ∨ vp_in s 64) → jJ E jcl 5 M (jQ E jcl M (fun r σ' n' => poI σ n r σ' n') 0 0) n 0 0 35 [some (.inr (.inr (some (.inl (t))))), some (.inl (nI k)), some (.inl d.1), some (.inl d.2), some (.inl s)] [] σ := by
    intro s hs
    refine jrun_ok jC X k_MT_met_35 35 _ _ _ o_MT_met_35 ?_
    simp only [k_MT_met_35, jrun, jstep, jldi, jldl, jlda, j1, j2, jl1, jl2, jli, ja1, jbr, jald, jast, jlald, jlast, jalen, jget, jput, jfit, jdup, jdupx, jdupx2, jdup2, jcat, jset1, jset2, jkill, List.getElem?_cons_zero, List.getElem?_cons_succ, List.set_cons_zero, List.set_cons_succ, List.length_cons, List.length_nil, Nat.reduceAdd, Nat.reduceLT, Int32.reduceToNatClampNeg, true_and, and_true, and_self, reduceCtorEq, not_false_eq_true, false_and, and_false, or_false, false_or, true_or, or_true]
    refine ⟨fun h => ?_, fun h => ?_⟩
    · refine jrun_ok jC X k_MT_met_44 44 _ _ _ o_MT_met_44 ?_
      simp only [k_MT_met_44, jrun, jstep, jldi, jldl, jlda, j1, j2, jl1, jl2, jli, ja1, jbr, jald, jast, jlald, jlast, jalen, jget, jput, jfit, jdup, jdupx, jdupx2, jdup2, jcat, jset1, jset2, jkill, List.getElem?_cons_zero, List.getElem?_cons_succ, List.set_cons_zero, List.set_cons_succ, List.length_cons, List.length_nil, Nat.reduceAdd, Nat.reduceLT, Int32.reduceToNatClampNeg, true_and, and_true, and_self, reduceCtorEq, not_false_eq_true, false_and, and_false, or_false, false_or, true_or, or_true, h0, hf, h1, ht, hm]
      refine ⟨hs.resolve_left (fun h9 => ?_), ?_⟩
      · rw [Int32.lt_iff_toInt_lt] at h9
        rw [Int32.le_iff_toInt_le] at h
        omega
      exact jk_iret X d_MT_met_51 hr rfl (Nat.le_refl _) (Nat.le_refl _) ⟨_, rfl, rfl, rfl⟩
    · exact jk_iret X d_MT_met_51 hr rfl (Nat.le_refl _) (Nat.le_refl _) ⟨_, rfl, rfl, rfl⟩
  have hloop : ∀ (u : Nat) (s : Int32), (s = -1 ∨ ∃ j : Nat, j < 64 ∧ s = nI j ∧ mt_mu d.1 d.2 j < u) → jJ E jcl 5 M (jQ E jcl M (fun r σ' n' => poI σ n r σ' n') 0 0) n 0 0 8 [some (.inr (.inr (some (.inl (t))))), some (.inl (nI k)), some (.inl d.1), some (.inl d.2), some (.inl s)] [] σ := by
    intro u
    induction u with
    | zero =>
      intro s hs
      rcases hs with rfl | ⟨j, -, -, h⟩
      · refine jrun_ok jC X k_MT_met_8 8 _ _ _ o_MT_met_8 ?_
        simp only [k_MT_met_8, jrun, jstep, jldi, jldl, jlda, j1, j2, jl1, jl2, jli, ja1, jbr, jald, jast, jlald, jlast, jalen, jget, jput, jfit, jdup, jdupx, jdupx2, jdup2, jcat, jset1, jset2, jkill, List.getElem?_cons_zero, List.getElem?_cons_succ, List.set_cons_zero, List.set_cons_succ, List.length_cons, List.length_nil, Nat.reduceAdd, Nat.reduceLT, Int32.reduceToNatClampNeg, true_and, and_true, and_self, reduceCtorEq, not_false_eq_true, false_and, and_false, or_false, false_or, true_or, or_true, h0, hf, h1, ht, hm]
        refine ⟨fun _ => hend _ (Or.inl (by decide)), fun h => absurd (by decide) h⟩
      · omega
    | succ u ih =>
      intro s hs
      refine jrun_ok jC X k_MT_met_8 8 _ _ _ o_MT_met_8 ?_
      simp only [k_MT_met_8, jrun, jstep, jldi, jldl, jlda, j1, j2, jl1, jl2, jli, ja1, jbr, jald, jast, jlald, jlast, jalen, jget, jput, jfit, jdup, jdupx, jdupx2, jdup2, jcat, jset1, jset2, jkill, List.getElem?_cons_zero, List.getElem?_cons_succ, List.set_cons_zero, List.set_cons_succ, List.length_cons, List.length_nil, Nat.reduceAdd, Nat.reduceLT, Int32.reduceToNatClampNeg, true_and, and_true, and_self, reduceCtorEq, not_false_eq_true, false_and, and_false, or_false, false_or, true_or, or_true, h0, hf, h1, ht, hm]
      have hs2 : s < 0 ∨ vp_in s 64 := by
        rcases hs with rfl | ⟨j, hj, rfl, -⟩
        · exact Or.inl (by decide)
        · exact Or.inr (vp_in_nI hj (by omega))
      refine ⟨fun _ => hend _ hs2, fun hn => ⟨hs2.resolve_left hn, fun _ => hend _ hs2, fun _ => ?_⟩⟩
      rcases hs with rfl | ⟨j, hj, rfl, hmu⟩
      · exact absurd (by decide) hn
      refine jk_Si X hR d_MT_met_27 q_MT_met_27 m_MT_step s_MT_step (vals := [.inl (nI j), .inl d.1, .inl d.2]) (r := []) (c_MT_step M.2.1 E σ n (nI j) d.1 d.2) rfl rfl ⟨by decide, by decide⟩ ⟨rfl, rfl⟩ ⟨by decide, by decide⟩ (by decide) (pc' := 30) rfl ?_
      refine jrun_ok jC X k_MT_met_30 30 _ _ _ o_MT_met_30 ?_
      simp only [k_MT_met_30, jrun, jstep, jldi, jldl, jlda, j1, j2, jl1, jl2, jli, ja1, jbr, jald, jast, jlald, jlast, jalen, jget, jput, jfit, jdup, jdupx, jdupx2, jdup2, jcat, jset1, jset2, jkill, List.getElem?_cons_zero, List.getElem?_cons_succ, List.set_cons_zero, List.set_cons_succ, List.length_cons, List.length_nil, Nat.reduceAdd, Nat.reduceLT, Int32.reduceToNatClampNeg, true_and, and_true, and_self, reduceCtorEq, not_false_eq_true, false_and, and_false, or_false, false_or, true_or, or_true]
      refine ih _ ?_
      rcases mt_step_or (nI j) d.1 d.2 with h | ⟨j', hj', h⟩
      · exact Or.inl h
      · refine Or.inr ⟨j', hj', h, ?_⟩
        rcases mt_ray d hd j hj with h9 | h9
        · rw [h] at h9
          exact absurd h9 (by intro q; have q2 := congrArg Int32.toInt q; rw [nI_toInt (by omega)] at q2; have q3 : ((-1 : Int32)).toInt = -1 := rfl; omega)
        · rw [h, nI_clamp (by omega)] at h9
          omega
  refine jrun_ok jC X k_MT_met_0 0 _ _ _ o_MT_met_0 ?_
  simp only [k_MT_met_0, jrun, jstep, jldi, jldl, jlda, j1, j2, jl1, jl2, jli, ja1, jbr, jald, jast, jlald, jlast, jalen, jget, jput, jfit, jdup, jdupx, jdupx2, jdup2, jcat, jset1, jset2, jkill, List.getElem?_cons_zero, List.getElem?_cons_succ, List.set_cons_zero, List.set_cons_succ, List.length_cons, List.length_nil, Nat.reduceAdd, Nat.reduceLT, Int32.reduceToNatClampNeg, true_and, and_true, and_self, reduceCtorEq, not_false_eq_true, false_and, and_false, or_false, false_or, true_or, or_true]
  refine jk_Si X hR d_MT_met_3 q_MT_met_3 m_MT_step s_MT_step (vals := [.inl (nI k), .inl d.1, .inl d.2]) (r := []) (c_MT_step M.2.1 E σ n (nI k) d.1 d.2) rfl rfl ⟨by decide, by decide⟩ ⟨rfl, rfl⟩ ⟨by decide, by decide⟩ (by decide) (pc' := 6) rfl ?_
  refine jrun_ok jC X k_MT_met_6 6 _ _ _ o_MT_met_6 ?_
  simp only [k_MT_met_6, jrun, jstep, jldi, jldl, jlda, j1, j2, jl1, jl2, jli, ja1, jbr, jald, jast, jlald, jlast, jalen, jget, jput, jfit, jdup, jdupx, jdupx2, jdup2, jcat, jset1, jset2, jkill, List.getElem?_cons_zero, List.getElem?_cons_succ, List.set_cons_zero, List.set_cons_succ, List.length_cons, List.length_nil, Nat.reduceAdd, Nat.reduceLT, Int32.reduceToNatClampNeg, true_and, and_true, and_self, reduceCtorEq, not_false_eq_true, false_and, and_false, or_false, false_or, true_or, or_true]
  refine hloop 8 _ ?_
  rcases mt_step_or (nI k) d.1 d.2 with h | ⟨j, hj, h⟩
  · exact Or.inl h
  · refine Or.inr ⟨j, hj, h, ?_⟩
    unfold mt_mu
    repeat' split
    all_goals omega
set_option maxRecDepth 100000 in
set_option maxHeartbeats 4000000 in
theorem c_MT_kingOf (l : Launch) (E : jE) (σ : Nat → jcell) (n : Nat) (t m : Nat) (fs : List jv) (men : Nat → Int32) (ht : t < n) (h0 : σ t = .inr (12, fs)) (hf : fs[24]? = some (.inr (.inr (some (.inl m))))) (hm : m < n) (h1 : σ m = .inl (.int, 64, .inl men)) (w : Int32) : jMet l E jcl jtb lw_tbl y_MT_kingOf { frames := 0, cells := 0, slots := 0, locals := 0 } [.inr (.inr (some (.inl (t)))), .inl w] σ n (fun r σ' n' => ∃ j : Nat, j < 64 ∧ r = some (.inl (nI j)) ∧ σ' = σ ∧ n' = n) := by
  refine jMet_of (hY := rfl) false (fun h => by cases h) (by decide) (Nat.le_of_ble_eq_true rfl) [some (.inr (.inr (some (.inl (t))))), some (.inl w), none, none] rfl ?_
  intro M hl hR X hr
  have hloop : ∀ (u i j : Nat), i + u = 64 → j < 64 → jJ E jcl 4 M (jQ E jcl M (fun r σ' n' => ∃ j : Nat, j < 64 ∧ r = some (.inl (nI j)) ∧ σ' = σ ∧ n' = n) 0 0) n 0 0 4 [some (.inr (.inr (some (.inl (t))))), some (.inl w), some (.inl (nI j)), some (.inl (nI i))] [] σ := by
    intro u
    induction u with
    | zero =>
      intro i j hi hj
      obtain rfl : i = 64 := by omega
      refine jrun_ok jC X k_MT_kingOf_4 4 _ _ _ o_MT_kingOf_4 ?_
      simp only [k_MT_kingOf_4, jrun, jstep, jldi, jldl, jlda, j1, j2, jl1, jl2, jli, ja1, jbr, jald, jast, jlald, jlast, jalen, jget, jput, jfit, jdup, jdupx, jdupx2, jdup2, jcat, jset1, jset2, jkill, List.getElem?_cons_zero, List.getElem?_cons_succ, List.set_cons_zero, List.set_cons_succ, List.length_cons, List.length_nil, Nat.reduceAdd, Nat.reduceLT, Int32.reduceToNatClampNeg, true_and, and_true, and_self, reduceCtorEq, not_false_eq_true, false_and, and_false, or_false, false_or, true_or, or_true, h0, hf, h1, ht, hm]
      refine ⟨fun _ => ?_, fun h => absurd (by decide) h⟩
      refine jrun_ok jC X k_MT_kingOf_38 38 _ _ _ o_MT_kingOf_38 ?_
      simp only [k_MT_kingOf_38, jrun, jstep, jldi, jldl, jlda, j1, j2, jl1, jl2, jli, ja1, jbr, jald, jast, jlald, jlast, jalen, jget, jput, jfit, jdup, jdupx, jdupx2, jdup2, jcat, jset1, jset2, jkill, List.getElem?_cons_zero, List.getElem?_cons_succ, List.set_cons_zero, List.set_cons_succ, List.length_cons, List.length_nil, Nat.reduceAdd, Nat.reduceLT, Int32.reduceToNatClampNeg, true_and, and_true, and_self, reduceCtorEq, not_false_eq_true, false_and, and_false, or_false, false_or, true_or, or_true]
      exact jk_iret X d_MT_kingOf_39 hr rfl (Nat.le_refl _) (Nat.le_refl _) ⟨j, hj, rfl, rfl, rfl⟩
    | succ u ih =>
      intro i j hi hj
      have hge : ¬ (64 : Int32) ≤ nI i := by
        rw [show (64 : Int32) = nI 64 from rfl, nI_leI (by omega) (by omega)]; omega
      have hend : ∀ j', j' < 64 → jJ E jcl 4 M (jQ E jcl M (fun r σ' n' => ∃ j : Nat, j < 64 ∧ r = some (.inl (nI j)) ∧ σ' = σ ∧ n' = n) 0 0) n 0 0 31 [some (.inr (.inr (some (.inl (t))))), some (.inl w), some (.inl (nI j)), some (.inl (nI i))] [.inl (nI j')] σ := by
        intro j' hj'
        refine jrun_ok jC X k_MT_kingOf_31 31 _ _ _ o_MT_kingOf_31 ?_
        simp only [k_MT_kingOf_31, jrun, jstep, jldi, jldl, jlda, j1, j2, jl1, jl2, jli, ja1, jbr, jald, jast, jlald, jlast, jalen, jget, jput, jfit, jdup, jdupx, jdupx2, jdup2, jcat, jset1, jset2, jkill, List.getElem?_cons_zero, List.getElem?_cons_succ, List.set_cons_zero, List.set_cons_succ, List.length_cons, List.length_nil, Nat.reduceAdd, Nat.reduceLT, Int32.reduceToNatClampNeg, true_and, and_true, and_self, reduceCtorEq, not_false_eq_true, false_and, and_false, or_false, false_or, true_or, or_true]
        rw [nI_1]
        exact ih (i + 1) j' (by omega) hj'
      refine jrun_ok jC X k_MT_kingOf_4 4 _ _ _ o_MT_kingOf_4 ?_
      simp only [k_MT_kingOf_4, jrun, jstep, jldi, jldl, jlda, j1, j2, jl1, jl2, jli, ja1, jbr, jald, jast, jlald, jlast, jalen, jget, jput, jfit, jdup, jdupx, jdupx2, jdup2, jcat, jset1, jset2, jkill, List.getElem?_cons_zero, List.getElem?_cons_succ, List.set_cons_zero, List.set_cons_succ, List.length_cons, List.length_nil, Nat.reduceAdd, Nat.reduceLT, Int32.reduceToNatClampNeg, true_and, and_true, and_self, reduceCtorEq, not_false_eq_true, false_and, and_false, or_false, false_or, true_or, or_true, h0, hf, h1, ht, hm]
      refine ⟨fun h => absurd h hge, fun _ => ⟨vp_in_nI (by omega) (by omega), fun _ => ?_, fun _ => hend i (by omega)⟩⟩
      refine jrun_ok jC X k_MT_kingOf_30 30 _ _ _ o_MT_kingOf_30 ?_
      simp only [k_MT_kingOf_30, jrun, jstep, jldi, jldl, jlda, j1, j2, jl1, jl2, jli, ja1, jbr, jald, jast, jlald, jlast, jalen, jget, jput, jfit, jdup, jdupx, jdupx2, jdup2, jcat, jset1, jset2, jkill, List.getElem?_cons_zero, List.getElem?_cons_succ, List.set_cons_zero, List.set_cons_succ, List.length_cons, List.length_nil, Nat.reduceAdd, Nat.reduceLT, Int32.reduceToNatClampNeg, true_and, and_true, and_self, reduceCtorEq, not_false_eq_true, false_and, and_false, or_false, false_or, true_or, or_true]
      exact hend j hj
  refine jrun_ok jC X k_MT_kingOf_0 0 _ _ _ o_MT_kingOf_0 ?_
  simp only [k_MT_kingOf_0, jrun, jstep, jldi, jldl, jlda, j1, j2, jl1, jl2, jli, ja1, jbr, jald, jast, jlald, jlast, jalen, jget, jput, jfit, jdup, jdupx, jdupx2, jdup2, jcat, jset1, jset2, jkill, List.getElem?_cons_zero, List.getElem?_cons_succ, List.set_cons_zero, List.set_cons_succ, List.length_cons, List.length_nil, Nat.reduceAdd, Nat.reduceLT, Int32.reduceToNatClampNeg, true_and, and_true, and_self, reduceCtorEq, not_false_eq_true, false_and, and_false, or_false, false_or, true_or, or_true]
  exact hloop 64 0 0 (by omega) (by omega)
end
section
/-! pictures of what a constructor has made: its object at a, and the cells that came behind n -/
def jz : jcell := .inl (.int, 0, .inl fun _ => 0)
def jmk (σ : Nat → jcell) (a n : Nat) (o : jcell) (cs : List jcell) : Nat → jcell := fun p => if p = a then o else if p < n then σ p else cs.getD (p - n) jz
theorem jmk_a {σ : Nat → jcell} {a n : Nat} {o : jcell} {cs : List jcell} : jmk σ a n o cs a = o := if_pos rfl
theorem jmk_put {σ : Nat → jcell} {a n : Nat} {o x : jcell} {cs : List jcell} : jup (jmk σ a n o cs) a x = jmk σ a n x cs := by
  funext p
  by_cases h : p = a
  · subst h
    rw [jup_s, jmk_a]
  · rw [jup_n h]
    unfold jmk
    rw [if_neg h, if_neg h]
theorem jmk_lo {σ : Nat → jcell} {a n p : Nat} {o : jcell} {cs : List jcell} (h : p < n) (hp : p ≠ a) : jmk σ a n o cs p = σ p := by
  unfold jmk
  rw [if_neg hp, if_pos h]
theorem jmk_at {σ : Nat → jcell} {a n k : Nat} {o c : jcell} {cs : List jcell} (ha : a < n) (h : cs[k]? = some c) : jmk σ a n o cs (n + k) = c := by
  unfold jmk
  rw [if_neg (by omega), if_neg (by omega), Nat.add_sub_cancel_left]
  simp [List.getD, h]
theorem jmk_add {σ : Nat → jcell} {a n k : Nat} {o c : jcell} {cs : List jcell} (ha : a < n) (hk : n + cs.length = k) : jup (jmk σ a n o cs) k c = jmk σ a n o (cs ++ [c]) := by
  subst hk
  funext p
  by_cases h : p = n + cs.length
  · subst h
    rw [jup_s, jmk_at (c := c) ha (by simp)]
  · rw [jup_n h]
    unfold jmk
    by_cases h1 : p = a
    · rw [if_pos h1, if_pos h1]
    · rw [if_neg h1, if_neg h1]
      by_cases h2 : p < n
      · rw [if_pos h2, if_pos h2]
      · rw [if_neg h2, if_neg h2]
        simp only [List.getD]
        by_cases h3 : p - n < cs.length
        · rw [List.getElem?_append_left h3]
        · rw [List.getElem?_eq_none (by omega), List.getElem?_eq_none (by simp; omega)]
theorem jmk_nest {σ : Nat → jcell} {a n b m : Nat} {o x y : jcell} {cs ds : List jcell} (ha : a < n) (hb : n + cs.length = b) (hm : b + 1 = m) : jmk (jmk σ a n o (cs ++ [x])) b m y ds = jmk σ a n o (cs ++ y :: ds) := by
  subst hb; subst hm
  funext p
  by_cases h : p = n + cs.length
  · subst h
    rw [jmk_a, jmk_at (c := y) ha (by simp)]
  · by_cases h1 : p < n + cs.length
    · rw [jmk_lo (by omega) h]
      unfold jmk
      by_cases h2 : p = a
      · rw [if_pos h2, if_pos h2]
      · rw [if_neg h2, if_neg h2]
        by_cases h3 : p < n
        · rw [if_pos h3, if_pos h3]
        · rw [if_neg h3, if_neg h3]
          simp only [List.getD]
          rw [List.getElem?_append_left (by omega), List.getElem?_append_left (by omega)]
    · have e1 : jmk (jmk σ a n o (cs ++ [x])) (n + cs.length) (n + cs.length + 1) y ds p = ds.getD (p - (n + cs.length + 1)) jz := by
        conv => lhs; unfold jmk
        rw [if_neg h, if_neg (by omega)]
      rw [e1]
      unfold jmk
      rw [if_neg (by omega), if_neg (by omega)]
      simp only [List.getD]
      rw [List.getElem?_append_right (by omega)]
      rw [show p - n - cs.length = (p - (n + cs.length + 1)) + 1 by omega, List.getElem?_cons_succ]
section JMK
variable {E : jE} {own : String} {Ts : List Jvm.Cond} {cl : List vw_C} {tb : jTb} {nL : Nat} {ini : Bool} {cc : ByteArray} {M : jM} {Q : State → Prop} {n cells slots : Nat}
theorem jJ_congr {pc : Nat} {lv : List (Option jv)} {st : List jv} {σ σ2 : Nat → jcell} (h : ∀ k, k < n → σ k = σ2 k) (hj : jJ E cl nL M Q n cells slots pc lv st σ2) : jJ E cl nL M Q n cells slots pc lv st σ := fun H locs ls hW hS hL => hj H locs ls ⟨hW.1, fun k hk => by rw [← h k hk]; exact hW.2 k hk⟩ hS hL
theorem jmk_in {pc a : Nat} {lv : List (Option jv)} {st : List jv} {σ : Nat → jcell} {o : jcell} (h : σ a = o) (hj : jJ E cl nL M Q n cells slots pc lv st (jmk σ a n o [])) : jJ E cl nL M Q n cells slots pc lv st σ := jJ_congr (fun k hk => by
  by_cases hka : k = a
  · subst hka; rw [jmk_a]; exact h
  · rw [jmk_lo hk hka]) hj
theorem jc_na (X : jX E own Ts cl tb nL ini cc M) {rm : Room} (hR : M.2.2.2.1 = rm) {pc w1 : Nat} {at1 : ArrayType} (hd : decode cc pc = .ok (.newarray at1, 2)) {ty : FieldType} (hty : newarray.typeOf at1 = ty) (h1 : Ts[w1]? = some (Jvm.Cond.arrayClass ty)) (hin : ty ∈ jtys) {lv : List (Option jv)} {r : List jv} {σ : Nat → jcell} {k : Int32} (hk : ¬ k < 0) (N : Nat) (hN : k.toNatClampNeg = N) (hby : N * 8 ≤ 536870912) {z : vp_A} (hz : jzero at1 N = z) {a n0 : Nat} {o : jcell} {cs : List jcell} (cs' : List jcell) (ha : a < n0) (hcs : cs ++ [.inl (ty, z)] = cs') (hn : n0 + cs.length = n) {n' c' s' : Nat} (hn' : n + 1 = n') (hc' : cells + 1 = c') (hs' : slots + N = s') (hc : c' ≤ rm.cells ∧ s' ≤ rm.slots) {pc' : Nat} (hp : pc + 2 = pc')
    (kk : jJ E cl nL M Q n' c' s' pc' lv (.inr (.inr (some (.inl n))) :: r) (jmk σ a n0 o cs')) : jJ E cl nL M Q n cells slots pc lv (.inl k :: r) (jmk σ a n0 o cs) := by
  refine jk_na X hR hd hty h1 hin hk N hN hby hz hn' hc' hs' hc hp ?_
  rw [jmk_add ha hn, hcs]
  exact kk
theorem jc_nw (hC : jCl Ts cl) (X : jX E own Ts cl tb nL ini cc M) {rm : Room} (hR : M.2.2.2.1 = rm) {pc i w1 w2 w3 ci : Nat} (hd : decode cc pc = .ok (.new i, 3)) {q : vw_C} (hq : cl[ci]? = some q) (h1 : Ts[w1]? = some (Jvm.Cond.classLink own i q.1)) (h2 : Ts[w2]? = some (Jvm.Cond.instantiable q.1 q.2.2)) (h3 : Ts[w3]? = some (Jvm.Cond.initialized q.1)) (h9 : ((List.range q.2.2).all fun j => decide (jkd (parseFieldDescriptor (q.2.1 j).2.2.1) ≠ 9)) = true) {fs : List jv} (hfs : jnew q = fs) {lv : List (Option jv)} {r : List jv} {σ : Nat → jcell} {a n0 : Nat} {o : jcell} {cs : List jcell} (ha : a < n0) (hn : n0 + cs.length = n) {n' c' s' : Nat} (hn' : n + 1 = n') (hc' : cells + 1 = c') (hs' : slots + q.2.2 = s') (hc : c' ≤ rm.cells ∧ s' ≤ rm.slots) {pc' : Nat} (hp : pc + 3 = pc')
    (kk : jJ E cl nL M Q n' c' s' pc' lv (.inr (.inr (some (.inl n))) :: r) (jmk σ a n0 o (cs ++ [.inr (ci, fs)]))) : jJ E cl nL M Q n cells slots pc lv r (jmk σ a n0 o cs) := by
  refine jk_nw hC X hR hd hq h1 h2 h3 h9 hfs hn' hc' hs' hc hp ?_
  rw [jmk_add ha hn]
  exact kk
end JMK
end
section
set_option maxRecDepth 100000 in
set_option maxHeartbeats 4000000 in
theorem c_BY_init (l : Launch) (E : jE) (σ : Nat → jcell) (n : Nat) (a : Nat) (ha : a < n) (h : σ a = .inr (1, [.inr (.inr none), .inl 0])) (q : Nat) (hq : q < 2 ^ 20) : jMet l E jcl jtb lw_tbl y_BY_init { frames := 1, cells := 1, slots := q, locals := 20 } [.inr (.inr (some (.inl (a)))), .inl (nI q)] σ n (fun r σ' n' => r = none ∧ n' = n + 1 ∧ σ' = jmk σ a n (.inr (1, [.inr (.inr (some (.inl n))), .inl 0])) [.inl (.byte, q, .inl fun _ => 0)]) := by
  refine jMet_of (hY := rfl) true (fun h => rfl) (by decide) (Nat.le_of_ble_eq_true rfl) [some (.inr (.inr (some (.inl (a))))), some (.inl (nI q))] rfl ?_
  intro M hl hR X hr
  have hak : ∀ k, (a < n + k) = True := fun k => eq_true (by omega)
  have hak0 : (a < n) = True := eq_true ha
  refine jmk_in h ?_
  refine jrun_ok jC X k_BY_init_0 0 _ _ _ o_BY_init_0 ?_
  simp only [k_BY_init_0, jrun, jstep, jldi, jldl, jlda, j1, j2, jl1, jl2, jli, ja1, jbr, jald, jast, jlald, jlast, jalen, jget, jput, jfit, jdup, jdupx, jdupx2, jdup2, jcat, jset1, jset2, jkill, List.getElem?_cons_zero, List.getElem?_cons_succ, List.set_cons_zero, List.set_cons_succ, List.length_cons, List.length_nil, Nat.reduceAdd, Nat.reduceLT, Int32.reduceToNatClampNeg, true_and, and_true, and_self, reduceCtorEq, not_false_eq_true, false_and, and_false, or_false, false_or, true_or, or_true, jmk_a, jmk_put, hak, hak0]
  refine jk_oi X hR (w1 := 349) (w2 := 340) (w3 := 341) d_BY_init_1 (by decide +kernel) (by decide +kernel) (by decide +kernel) (Nat.le_of_ble_eq_true rfl) (Nat.le_of_ble_eq_true rfl) (pc' := 4) rfl ?_
  refine jrun_ok jC X k_BY_init_4 4 _ _ _ o_BY_init_4 ?_
  simp only [k_BY_init_4, jrun, jstep, jldi, jldl, jlda, j1, j2, jl1, jl2, jli, ja1, jbr, jald, jast, jlald, jlast, jalen, jget, jput, jfit, jdup, jdupx, jdupx2, jdup2, jcat, jset1, jset2, jkill, List.getElem?_cons_zero, List.getElem?_cons_succ, List.set_cons_zero, List.set_cons_succ, List.length_cons, List.length_nil, Nat.reduceAdd, Nat.reduceLT, Int32.reduceToNatClampNeg, true_and, and_true, and_self, reduceCtorEq, not_false_eq_true, false_and, and_false, or_false, false_or, true_or, or_true, jmk_a, jmk_put, hak, hak0]
  refine jc_na X hR (w1 := 361) d_BY_init_6 rfl (by decide +kernel) (by decide) (nI_pos (by omega)) q (nI_clamp (by omega)) (by omega) rfl [.inl (.byte, q, .inl fun _ => 0)] ha rfl rfl (n' := n + 1) rfl (c' := 1) rfl (s' := q) (Nat.zero_add _) ⟨Nat.le_of_ble_eq_true rfl, Nat.le_refl _⟩ (pc' := 8) rfl ?_
  refine jrun_ok jC X k_BY_init_8 8 _ _ _ o_BY_init_8 ?_
  simp only [k_BY_init_8, jrun, jstep, jldi, jldl, jlda, j1, j2, jl1, jl2, jli, ja1, jbr, jald, jast, jlald, jlast, jalen, jget, jput, jfit, jdup, jdupx, jdupx2, jdup2, jcat, jset1, jset2, jkill, List.getElem?_cons_zero, List.getElem?_cons_succ, List.set_cons_zero, List.set_cons_succ, List.length_cons, List.length_nil, Nat.reduceAdd, Nat.reduceLT, Int32.reduceToNatClampNeg, true_and, and_true, and_self, reduceCtorEq, not_false_eq_true, false_and, and_false, or_false, false_or, true_or, or_true, jmk_a, jmk_put, hak, hak0]
  exact jk_vret X d_BY_init_11 hr (Nat.le_refl _) (Nat.le_refl _) ⟨rfl, rfl, rfl⟩
set_option maxRecDepth 100000 in
set_option maxHeartbeats 4000000 in
theorem c_WO_init (l : Launch) (E : jE) (σ : Nat → jcell) (n : Nat) (a : Nat) (ha : a < n) (h : σ a = .inr (2, [.inr (.inr none), .inl 0, .inl 0, .inr (.inr none), .inl 0])) : jMet l E jcl jtb lw_tbl y_WO_init { frames := 1, cells := 1, slots := 8, locals := 20 } [.inr (.inr (some (.inl (a))))] σ n (fun r σ' n' => r = none ∧ n' = n + 1 ∧ σ' = jmk σ a n (.inr (2, [.inr (.inr (some (.inl n))), .inl 0, .inl 0, .inr (.inr none), .inl 0])) [.inl (.int, 8, .inl fun _ => 0)]) := by
  refine jMet_of (hY := rfl) true (fun h => rfl) (by decide) (Nat.le_of_ble_eq_true rfl) [some (.inr (.inr (some (.inl (a)))))] rfl ?_
  intro M hl hR X hr
  have hak : ∀ k, (a < n + k) = True := fun k => eq_true (by omega)
  have hak0 : (a < n) = True := eq_true ha
  refine jmk_in h ?_
  refine jrun_ok jC X k_WO_init_0 0 _ _ _ o_WO_init_0 ?_
  simp only [k_WO_init_0, jrun, jstep, jldi, jldl, jlda, j1, j2, jl1, jl2, jli, ja1, jbr, jald, jast, jlald, jlast, jalen, jget, jput, jfit, jdup, jdupx, jdupx2, jdup2, jcat, jset1, jset2, jkill, List.getElem?_cons_zero, List.getElem?_cons_succ, List.set_cons_zero, List.set_cons_succ, List.length_cons, List.length_nil, Nat.reduceAdd, Nat.reduceLT, Int32.reduceToNatClampNeg, true_and, and_true, and_self, reduceCtorEq, not_false_eq_true, false_and, and_false, or_false, false_or, true_or, or_true, jmk_a, jmk_put, hak, hak0]
  refine jk_oi X hR (w1 := 367) (w2 := 340) (w3 := 341) d_WO_init_1 (by decide +kernel) (by decide +kernel) (by decide +kernel) (Nat.le_of_ble_eq_true rfl) (Nat.le_of_ble_eq_true rfl) (pc' := 4) rfl ?_
  refine jrun_ok jC X k_WO_init_4 4 _ _ _ o_WO_init_4 ?_
  simp only [k_WO_init_4, jrun, jstep, jldi, jldl, jlda, j1, j2, jl1, jl2, jli, ja1, jbr, jald, jast, jlald, jlast, jalen, jget, jput, jfit, jdup, jdupx, jdupx2, jdup2, jcat, jset1, jset2, jkill, List.getElem?_cons_zero, List.getElem?_cons_succ, List.set_cons_zero, List.set_cons_succ, List.length_cons, List.length_nil, Nat.reduceAdd, Nat.reduceLT, Int32.reduceToNatClampNeg, true_and, and_true, and_self, reduceCtorEq, not_false_eq_true, false_and, and_false, or_false, false_or, true_or, or_true, jmk_a, jmk_put, hak, hak0]
  refine jc_na X hR (w1 := 387) d_WO_init_7 rfl (by decide +kernel) (by decide) (by decide) 8 (by decide) (by decide) rfl [.inl (.int, 8, .inl fun _ => 0)] ha rfl rfl (n' := n + 1) rfl (c' := 1) rfl (s' := 8) rfl ⟨Nat.le_of_ble_eq_true rfl, Nat.le_of_ble_eq_true rfl⟩ (pc' := 9) rfl ?_
  refine jrun_ok jC X k_WO_init_9 9 _ _ _ o_WO_init_9 ?_
  simp only [k_WO_init_9, jrun, jstep, jldi, jldl, jlda, j1, j2, jl1, jl2, jli, ja1, jbr, jald, jast, jlald, jlast, jalen, jget, jput, jfit, jdup, jdupx, jdupx2, jdup2, jcat, jset1, jset2, jkill, List.getElem?_cons_zero, List.getElem?_cons_succ, List.set_cons_zero, List.set_cons_succ, List.length_cons, List.length_nil, Nat.reduceAdd, Nat.reduceLT, Int32.reduceToNatClampNeg, true_and, and_true, and_self, reduceCtorEq, not_false_eq_true, false_and, and_false, or_false, false_or, true_or, or_true, jmk_a, jmk_put, hak, hak0]
  exact jk_vret X d_WO_init_12 hr (Nat.le_refl _) (Nat.le_refl _) ⟨rfl, rfl, rfl⟩
set_option maxRecDepth 100000 in
set_option maxHeartbeats 4000000 in
theorem c_SI_init (l : Launch) (E : jE) (σ : Nat → jcell) (n : Nat) (a : Nat) (ha : a < n) (h : σ a = .inr (3, [.inr (.inr none), .inr (.inr none), .inl 0, .inl 0, .inl 0, .inl 0, .inl 0, .inl 0, .inl 0, .inl 0, .inl 0])) : jMet l E jcl jtb lw_tbl y_SI_init { frames := 1, cells := 2, slots := 3463, locals := 20 } [.inr (.inr (some (.inl (a))))] σ n (fun r σ' n' => r = none ∧ n' = n + 2 ∧ σ' = jmk σ a n (.inr (3, [.inr (.inr (some (.inl n))), .inr (.inr (some (.inl (n + 1)))), .inl 0, .inl 0, .inl 0, .inl 0, .inl 0, .inl 0, .inl 0, .inl 0, .inl 0])) [.inl (.int, 3456, .inl fun _ => 0), .inl (.int, 7, .inl fun _ => 0)]) := by
  refine jMet_of (hY := rfl) true (fun h => rfl) (by decide) (Nat.le_of_ble_eq_true rfl) [some (.inr (.inr (some (.inl (a)))))] rfl ?_
  intro M hl hR X hr
  have hak : ∀ k, (a < n + k) = True := fun k => eq_true (by omega)
  have hak0 : (a < n) = True := eq_true ha
  refine jmk_in h ?_
  refine jrun_ok jC X k_SI_init_0 0 _ _ _ o_SI_init_0 ?_
  simp only [k_SI_init_0, jrun, jstep, jldi, jldl, jlda, j1, j2, jl1, jl2, jli, ja1, jbr, jald, jast, jlald, jlast, jalen, jget, jput, jfit, jdup, jdupx, jdupx2, jdup2, jcat, jset1, jset2, jkill, List.getElem?_cons_zero, List.getElem?_cons_succ, List.set_cons_zero, List.set_cons_succ, List.length_cons, List.length_nil, Nat.reduceAdd, Nat.reduceLT, Int32.reduceToNatClampNeg, true_and, and_true, and_self, reduceCtorEq, not_false_eq_true, false_and, and_false, or_false, false_or, true_or, or_true, jmk_a, jmk_put, hak, hak0]
  refine jk_oi X hR (w1 := 393) (w2 := 340) (w3 := 341) d_SI_init_1 (by decide +kernel) (by decide +kernel) (by decide +kernel) (Nat.le_of_ble_eq_true rfl) (Nat.le_of_ble_eq_true rfl) (pc' := 4) rfl ?_
  refine jrun_ok jC X k_SI_init_4 4 _ _ _ o_SI_init_4 ?_
  simp only [k_SI_init_4, jrun, jstep, jldi, jldl, jlda, j1, j2, jl1, jl2, jli, ja1, jbr, jald, jast, jlald, jlast, jalen, jget, jput, jfit, jdup, jdupx, jdupx2, jdup2, jcat, jset1, jset2, jkill, List.getElem?_cons_zero, List.getElem?_cons_succ, List.set_cons_zero, List.set_cons_succ, List.length_cons, List.length_nil, Nat.reduceAdd, Nat.reduceLT, Int32.reduceToNatClampNeg, true_and, and_true, and_self, reduceCtorEq, not_false_eq_true, false_and, and_false, or_false, false_or, true_or, or_true, jmk_a, jmk_put, hak, hak0]
  refine jc_na X hR (w1 := 387) d_SI_init_8 rfl (by decide +kernel) (by decide) (by decide) 3456 (by decide) (by decide) rfl [.inl (.int, 3456, .inl fun _ => 0)] ha rfl rfl (n' := n + 1) rfl (c' := 1) rfl (s' := 3456) rfl ⟨Nat.le_of_ble_eq_true rfl, Nat.le_of_ble_eq_true rfl⟩ (pc' := 10) rfl ?_
  refine jrun_ok jC X k_SI_init_10 10 _ _ _ o_SI_init_10 ?_
  simp only [k_SI_init_10, jrun, jstep, jldi, jldl, jlda, j1, j2, jl1, jl2, jli, ja1, jbr, jald, jast, jlald, jlast, jalen, jget, jput, jfit, jdup, jdupx, jdupx2, jdup2, jcat, jset1, jset2, jkill, List.getElem?_cons_zero, List.getElem?_cons_succ, List.set_cons_zero, List.set_cons_succ, List.length_cons, List.length_nil, Nat.reduceAdd, Nat.reduceLT, Int32.reduceToNatClampNeg, true_and, and_true, and_self, reduceCtorEq, not_false_eq_true, false_and, and_false, or_false, false_or, true_or, or_true, jmk_a, jmk_put, hak, hak0]
  refine jc_na X hR (w1 := 387) d_SI_init_16 rfl (by decide +kernel) (by decide) (by decide) 7 (by decide) (by decide) rfl [.inl (.int, 3456, .inl fun _ => 0), .inl (.int, 7, .inl fun _ => 0)] ha rfl rfl (n' := n + 2) rfl (c' := 2) rfl (s' := 3463) rfl ⟨Nat.le_of_ble_eq_true rfl, Nat.le_of_ble_eq_true rfl⟩ (pc' := 18) rfl ?_
  refine jrun_ok jC X k_SI_init_18 18 _ _ _ o_SI_init_18 ?_
  simp only [k_SI_init_18, jrun, jstep, jldi, jldl, jlda, j1, j2, jl1, jl2, jli, ja1, jbr, jald, jast, jlald, jlast, jalen, jget, jput, jfit, jdup, jdupx, jdupx2, jdup2, jcat, jset1, jset2, jkill, List.getElem?_cons_zero, List.getElem?_cons_succ, List.set_cons_zero, List.set_cons_succ, List.length_cons, List.length_nil, Nat.reduceAdd, Nat.reduceLT, Int32.reduceToNatClampNeg, true_and, and_true, and_self, reduceCtorEq, not_false_eq_true, false_and, and_false, or_false, false_or, true_or, or_true, jmk_a, jmk_put, hak, hak0]
  exact jk_vret X d_SI_init_21 hr (Nat.le_refl _) (Nat.le_refl _) ⟨rfl, rfl, rfl⟩
set_option maxRecDepth 100000 in
set_option maxHeartbeats 4000000 in
theorem c_GR_init (l : Launch) (E : jE) (σ : Nat → jcell) (n : Nat) (a : Nat) (ha : a < n) (h : σ a = .inr (4, [.inl 0, .inr (.inr none), .inr (.inr none), .inr (.inr none), .inr (.inr none), .inr (.inr none), .inl 0, .inl 0, .inl 0, .inl 0, .inl 0, .inl 0])) : jMet l E jcl jtb lw_tbl y_GR_init { frames := 2, cells := 5, slots := 3576, locals := 40 } [.inr (.inr (some (.inl (a))))] σ n (fun r σ' n' => r = none ∧ n' = n + 5 ∧ σ' = jmk σ a n (.inr (4, [.inl 0, .inr (.inr (some (.inl n))), .inr (.inr (some (.inl (n + 3)))), .inr (.inr (some (.inl (n + 4)))), .inr (.inr none), .inr (.inr none), .inl 0, .inl 0, .inl 0, .inl 0, .inl 0, .inl 0])) [.inr (3, [.inr (.inr (some (.inl (n + 1)))), .inr (.inr (some (.inl (n + 2)))), .inl 0, .inl 0, .inl 0, .inl 0, .inl 0, .inl 0, .inl 0, .inl 0, .inl 0]), .inl (.int, 3456, .inl fun _ => 0), .inl (.int, 7, .inl fun _ => 0), .inl (.int, 6, .inl fun _ => 0), .inl (.byte, 96, .inl fun _ => 0)]) := by
  refine jMet_of (hY := rfl) true (fun h => rfl) (by decide) (Nat.le_of_ble_eq_true rfl) [some (.inr (.inr (some (.inl (a)))))] rfl ?_
  intro M hl hR X hr
  have hak : ∀ k, (a < n + k) = True := fun k => eq_true (by omega)
  have hak0 : (a < n) = True := eq_true ha
  refine jmk_in h ?_
  refine jrun_ok jC X k_GR_init_0 0 _ _ _ o_GR_init_0 ?_
  simp only [k_GR_init_0, jrun, jstep, jldi, jldl, jlda, j1, j2, jl1, jl2, jli, ja1, jbr, jald, jast, jlald, jlast, jalen, jget, jput, jfit, jdup, jdupx, jdupx2, jdup2, jcat, jset1, jset2, jkill, List.getElem?_cons_zero, List.getElem?_cons_succ, List.set_cons_zero, List.set_cons_succ, List.length_cons, List.length_nil, Nat.reduceAdd, Nat.reduceLT, Int32.reduceToNatClampNeg, true_and, and_true, and_self, reduceCtorEq, not_false_eq_true, false_and, and_false, or_false, false_or, true_or, or_true, jmk_a, jmk_put, hak, hak0]
  refine jk_oi X hR (w1 := 433) (w2 := 340) (w3 := 341) d_GR_init_1 (by decide +kernel) (by decide +kernel) (by decide +kernel) (Nat.le_of_ble_eq_true rfl) (Nat.le_of_ble_eq_true rfl) (pc' := 4) rfl ?_
  refine jrun_ok jC X k_GR_init_4 4 _ _ _ o_GR_init_4 ?_
  simp only [k_GR_init_4, jrun, jstep, jldi, jldl, jlda, j1, j2, jl1, jl2, jli, ja1, jbr, jald, jast, jlald, jlast, jalen, jget, jput, jfit, jdup, jdupx, jdupx2, jdup2, jcat, jset1, jset2, jkill, List.getElem?_cons_zero, List.getElem?_cons_succ, List.set_cons_zero, List.set_cons_succ, List.length_cons, List.length_nil, Nat.reduceAdd, Nat.reduceLT, Int32.reduceToNatClampNeg, true_and, and_true, and_self, reduceCtorEq, not_false_eq_true, false_and, and_false, or_false, false_or, true_or, or_true, jmk_a, jmk_put, hak, hak0]
  refine jc_nw jC X hR (w1 := 434) (w2 := 389) (w3 := 305) (ci := 3) d_GR_init_5 (q := ("ChessHouse$Signs", F_SI, 11)) rfl (by decide +kernel) (by decide +kernel) (by decide +kernel) (by decide +kernel) (fs := [.inr (.inr none), .inr (.inr none), .inl 0, .inl 0, .inl 0, .inl 0, .inl 0, .inl 0, .inl 0, .inl 0, .inl 0]) (by decide +kernel) ha rfl (n' := n + 1) rfl (c' := 1) rfl (s' := 11) rfl ⟨Nat.le_of_ble_eq_true rfl, Nat.le_of_ble_eq_true rfl⟩ (pc' := 8) rfl ?_
  refine jrun_ok jC X k_GR_init_8 8 _ _ _ o_GR_init_8 ?_
  simp only [k_GR_init_8, jrun, jstep, jldi, jldl, jlda, j1, j2, jl1, jl2, jli, ja1, jbr, jald, jast, jlald, jlast, jalen, jget, jput, jfit, jdup, jdupx, jdupx2, jdup2, jcat, jset1, jset2, jkill, List.getElem?_cons_zero, List.getElem?_cons_succ, List.set_cons_zero, List.set_cons_succ, List.length_cons, List.length_nil, Nat.reduceAdd, Nat.reduceLT, Int32.reduceToNatClampNeg, true_and, and_true, and_self, reduceCtorEq, not_false_eq_true, false_and, and_false, or_false, false_or, true_or, or_true, jmk_a, jmk_put, hak, hak0]
  refine jk_Ig X hR d_GR_init_9 q_GR_init_9 m_SI_init i_SI_init rfl rfl (vals := []) (r := [.inr (.inr (some (.inl n))), .inr (.inr (some (.inl (a))))]) (c_SI_init M.2.1 E (jmk σ a n (.inr (4, [.inl 0, .inr (.inr none), .inr (.inr none), .inr (.inr none), .inr (.inr none), .inr (.inr none), .inl 0, .inl 0, .inl 0, .inl 0, .inl 0, .inl 0])) ([] ++ [.inr (3, [.inr (.inr none), .inr (.inr none), .inl 0, .inl 0, .inl 0, .inl 0, .inl 0, .inl 0, .inl 0, .inl 0, .inl 0])])) (n + 1) (n) (by omega) (jmk_at (k := 0) ha (by rfl))) rfl rfl ⟨Nat.le_of_ble_eq_true rfl, Nat.le_of_ble_eq_true rfl⟩ (c' := 3) rfl (s' := 3474) rfl ⟨Nat.le_of_ble_eq_true rfl, Nat.le_of_ble_eq_true rfl⟩ (Nat.le_of_ble_eq_true rfl) (pc' := 12) rfl ?_
  rintro _ _ _ ⟨rfl, rfl, rfl⟩
  rw [jmk_nest (a := a) (n := n) (b := n) (m := n + 1) (cs := []) ha rfl rfl]
  show jJ E jcl 1 M _ (n + 3) 3 (3474) 12 [some (.inr (.inr (some (.inl (a)))))] [.inr (.inr (some (.inl n))), .inr (.inr (some (.inl (a))))] (jmk σ a n (.inr (4, [.inl 0, .inr (.inr none), .inr (.inr none), .inr (.inr none), .inr (.inr none), .inr (.inr none), .inl 0, .inl 0, .inl 0, .inl 0, .inl 0, .inl 0])) [.inr (3, [.inr (.inr (some (.inl (n + 1)))), .inr (.inr (some (.inl (n + 2)))), .inl 0, .inl 0, .inl 0, .inl 0, .inl 0, .inl 0, .inl 0, .inl 0, .inl 0]), .inl (.int, 3456, .inl fun _ => 0), .inl (.int, 7, .inl fun _ => 0)])
  refine jrun_ok jC X k_GR_init_12 12 _ _ _ o_GR_init_12 ?_
  simp only [k_GR_init_12, jrun, jstep, jldi, jldl, jlda, j1, j2, jl1, jl2, jli, ja1, jbr, jald, jast, jlald, jlast, jalen, jget, jput, jfit, jdup, jdupx, jdupx2, jdup2, jcat, jset1, jset2, jkill, List.getElem?_cons_zero, List.getElem?_cons_succ, List.set_cons_zero, List.set_cons_succ, List.length_cons, List.length_nil, Nat.reduceAdd, Nat.reduceLT, Int32.reduceToNatClampNeg, true_and, and_true, and_self, reduceCtorEq, not_false_eq_true, false_and, and_false, or_false, false_or, true_or, or_true, jmk_a, jmk_put, hak, hak0]
  refine jc_na X hR (w1 := 387) d_GR_init_18 rfl (by decide +kernel) (by decide) (by decide) 6 (by decide) (by decide) rfl [.inr (3, [.inr (.inr (some (.inl (n + 1)))), .inr (.inr (some (.inl (n + 2)))), .inl 0, .inl 0, .inl 0, .inl 0, .inl 0, .inl 0, .inl 0, .inl 0, .inl 0]), .inl (.int, 3456, .inl fun _ => 0), .inl (.int, 7, .inl fun _ => 0), .inl (.int, 6, .inl fun _ => 0)] ha rfl rfl (n' := n + 4) rfl (c' := 4) rfl (s' := 3480) rfl ⟨Nat.le_of_ble_eq_true rfl, Nat.le_of_ble_eq_true rfl⟩ (pc' := 20) rfl ?_
  refine jrun_ok jC X k_GR_init_20 20 _ _ _ o_GR_init_20 ?_
  simp only [k_GR_init_20, jrun, jstep, jldi, jldl, jlda, j1, j2, jl1, jl2, jli, ja1, jbr, jald, jast, jlald, jlast, jalen, jget, jput, jfit, jdup, jdupx, jdupx2, jdup2, jcat, jset1, jset2, jkill, List.getElem?_cons_zero, List.getElem?_cons_succ, List.set_cons_zero, List.set_cons_succ, List.length_cons, List.length_nil, Nat.reduceAdd, Nat.reduceLT, Int32.reduceToNatClampNeg, true_and, and_true, and_self, reduceCtorEq, not_false_eq_true, false_and, and_false, or_false, false_or, true_or, or_true, jmk_a, jmk_put, hak, hak0]
  refine jc_na X hR (w1 := 361) d_GR_init_26 rfl (by decide +kernel) (by decide) (by decide) 96 (by decide) (by decide) rfl [.inr (3, [.inr (.inr (some (.inl (n + 1)))), .inr (.inr (some (.inl (n + 2)))), .inl 0, .inl 0, .inl 0, .inl 0, .inl 0, .inl 0, .inl 0, .inl 0, .inl 0]), .inl (.int, 3456, .inl fun _ => 0), .inl (.int, 7, .inl fun _ => 0), .inl (.int, 6, .inl fun _ => 0), .inl (.byte, 96, .inl fun _ => 0)] ha rfl rfl (n' := n + 5) rfl (c' := 5) rfl (s' := 3576) rfl ⟨Nat.le_of_ble_eq_true rfl, Nat.le_of_ble_eq_true rfl⟩ (pc' := 28) rfl ?_
  refine jrun_ok jC X k_GR_init_28 28 _ _ _ o_GR_init_28 ?_
  simp only [k_GR_init_28, jrun, jstep, jldi, jldl, jlda, j1, j2, jl1, jl2, jli, ja1, jbr, jald, jast, jlald, jlast, jalen, jget, jput, jfit, jdup, jdupx, jdupx2, jdup2, jcat, jset1, jset2, jkill, List.getElem?_cons_zero, List.getElem?_cons_succ, List.set_cons_zero, List.set_cons_succ, List.length_cons, List.length_nil, Nat.reduceAdd, Nat.reduceLT, Int32.reduceToNatClampNeg, true_and, and_true, and_self, reduceCtorEq, not_false_eq_true, false_and, and_false, or_false, false_or, true_or, or_true, jmk_a, jmk_put, hak, hak0]
  exact jk_vret X d_GR_init_31 hr (Nat.le_refl _) (Nat.le_refl _) ⟨rfl, rfl, rfl⟩
set_option maxRecDepth 100000 in
set_option maxHeartbeats 4000000 in
theorem c_GW_init (l : Launch) (E : jE) (σ : Nat → jcell) (n : Nat) (a : Nat) (ha : a < n) (h : σ a = .inr (5, [.inr (.inr none), .inr (.inr none), .inr (.inr none)])) : jMet l E jcl jtb lw_tbl y_GW_init { frames := 2, cells := 5, slots := 134548, locals := 41 } [.inr (.inr (some (.inl (a))))] σ n (fun r σ' n' => r = none ∧ n' = n + 5 ∧ σ' = jmk σ a n (.inr (5, [.inr (.inr (some (.inl n))), .inr (.inr (some (.inl (n + 2)))), .inr (.inr none)])) [.inr (1, [.inr (.inr (some (.inl (n + 1)))), .inl 0]), .inl (.byte, 131072, .inl fun _ => 0), .inr (3, [.inr (.inr (some (.inl (n + 3)))), .inr (.inr (some (.inl (n + 4)))), .inl 0, .inl 0, .inl 0, .inl 0, .inl 0, .inl 0, .inl 0, .inl 0, .inl 0]), .inl (.int, 3456, .inl fun _ => 0), .inl (.int, 7, .inl fun _ => 0)]) := by
  refine jMet_of (hY := rfl) true (fun h => rfl) (by decide) (Nat.le_of_ble_eq_true rfl) [some (.inr (.inr (some (.inl (a)))))] rfl ?_
  intro M hl hR X hr
  have hak : ∀ k, (a < n + k) = True := fun k => eq_true (by omega)
  have hak0 : (a < n) = True := eq_true ha
  refine jmk_in h ?_
  refine jrun_ok jC X k_GW_init_0 0 _ _ _ o_GW_init_0 ?_
  simp only [k_GW_init_0, jrun, jstep, jldi, jldl, jlda, j1, j2, jl1, jl2, jli, ja1, jbr, jald, jast, jlald, jlast, jalen, jget, jput, jfit, jdup, jdupx, jdupx2, jdup2, jcat, jset1, jset2, jkill, List.getElem?_cons_zero, List.getElem?_cons_succ, List.set_cons_zero, List.set_cons_succ, List.length_cons, List.length_nil, Nat.reduceAdd, Nat.reduceLT, Int32.reduceToNatClampNeg, true_and, and_true, and_self, reduceCtorEq, not_false_eq_true, false_and, and_false, or_false, false_or, true_or, or_true, jmk_a, jmk_put, hak, hak0]
  refine jk_oi X hR (w1 := 479) (w2 := 340) (w3 := 341) d_GW_init_1 (by decide +kernel) (by decide +kernel) (by decide +kernel) (Nat.le_of_ble_eq_true rfl) (Nat.le_of_ble_eq_true rfl) (pc' := 4) rfl ?_
  refine jrun_ok jC X k_GW_init_4 4 _ _ _ o_GW_init_4 ?_
  simp only [k_GW_init_4, jrun, jstep, jldi, jldl, jlda, j1, j2, jl1, jl2, jli, ja1, jbr, jald, jast, jlald, jlast, jalen, jget, jput, jfit, jdup, jdupx, jdupx2, jdup2, jcat, jset1, jset2, jkill, List.getElem?_cons_zero, List.getElem?_cons_succ, List.set_cons_zero, List.set_cons_succ, List.length_cons, List.length_nil, Nat.reduceAdd, Nat.reduceLT, Int32.reduceToNatClampNeg, true_and, and_true, and_self, reduceCtorEq, not_false_eq_true, false_and, and_false, or_false, false_or, true_or, or_true, jmk_a, jmk_put, hak, hak0]
  refine jc_nw jC X hR (w1 := 480) (w2 := 344) (w3 := 303) (ci := 1) d_GW_init_5 (q := ("ChessHouse$Bytes", F_BY, 2)) rfl (by decide +kernel) (by decide +kernel) (by decide +kernel) (by decide +kernel) (fs := [.inr (.inr none), .inl 0]) (by decide +kernel) ha rfl (n' := n + 1) rfl (c' := 1) rfl (s' := 2) rfl ⟨Nat.le_of_ble_eq_true rfl, Nat.le_of_ble_eq_true rfl⟩ (pc' := 8) rfl ?_
  refine jrun_ok jC X k_GW_init_8 8 _ _ _ o_GW_init_8 ?_
  simp only [k_GW_init_8, jrun, jstep, jldi, jldl, jlda, j1, j2, jl1, jl2, jli, ja1, jbr, jald, jast, jlald, jlast, jalen, jget, jput, jfit, jdup, jdupx, jdupx2, jdup2, jcat, jset1, jset2, jkill, List.getElem?_cons_zero, List.getElem?_cons_succ, List.set_cons_zero, List.set_cons_succ, List.length_cons, List.length_nil, Nat.reduceAdd, Nat.reduceLT, Int32.reduceToNatClampNeg, true_and, and_true, and_self, reduceCtorEq, not_false_eq_true, false_and, and_false, or_false, false_or, true_or, or_true, jmk_a, jmk_put, hak, hak0]
  refine jk_Ig X hR d_GW_init_11 q_GW_init_11 m_BY_init i_BY_init rfl rfl (vals := [.inl 131072]) (r := [.inr (.inr (some (.inl n))), .inr (.inr (some (.inl (a))))]) (c_BY_init M.2.1 E (jmk σ a n (.inr (5, [.inr (.inr none), .inr (.inr none), .inr (.inr none)])) ([] ++ [.inr (1, [.inr (.inr none), .inl 0])])) (n + 1) (n) (by omega) (jmk_at (k := 0) ha (by rfl)) 131072 (by decide)) rfl rfl ⟨Nat.le_of_ble_eq_true rfl, Nat.le_of_ble_eq_true rfl⟩ (c' := 2) rfl (s' := 131074) rfl ⟨Nat.le_of_ble_eq_true rfl, Nat.le_of_ble_eq_true rfl⟩ (Nat.le_of_ble_eq_true rfl) (pc' := 14) rfl ?_
  rintro _ _ _ ⟨rfl, rfl, rfl⟩
  rw [jmk_nest (a := a) (n := n) (b := n) (m := n + 1) (cs := []) ha rfl rfl]
  show jJ E jcl 1 M _ (n + 2) 2 (131074) 14 [some (.inr (.inr (some (.inl (a)))))] [.inr (.inr (some (.inl n))), .inr (.inr (some (.inl (a))))] (jmk σ a n (.inr (5, [.inr (.inr none), .inr (.inr none), .inr (.inr none)])) [.inr (1, [.inr (.inr (some (.inl (n + 1)))), .inl 0]), .inl (.byte, 131072, .inl fun _ => 0)])
  refine jrun_ok jC X k_GW_init_14 14 _ _ _ o_GW_init_14 ?_
  simp only [k_GW_init_14, jrun, jstep, jldi, jldl, jlda, j1, j2, jl1, jl2, jli, ja1, jbr, jald, jast, jlald, jlast, jalen, jget, jput, jfit, jdup, jdupx, jdupx2, jdup2, jcat, jset1, jset2, jkill, List.getElem?_cons_zero, List.getElem?_cons_succ, List.set_cons_zero, List.set_cons_succ, List.length_cons, List.length_nil, Nat.reduceAdd, Nat.reduceLT, Int32.reduceToNatClampNeg, true_and, and_true, and_self, reduceCtorEq, not_false_eq_true, false_and, and_false, or_false, false_or, true_or, or_true, jmk_a, jmk_put, hak, hak0]
  refine jc_nw jC X hR (w1 := 483) (w2 := 389) (w3 := 305) (ci := 3) d_GW_init_18 (q := ("ChessHouse$Signs", F_SI, 11)) rfl (by decide +kernel) (by decide +kernel) (by decide +kernel) (by decide +kernel) (fs := [.inr (.inr none), .inr (.inr none), .inl 0, .inl 0, .inl 0, .inl 0, .inl 0, .inl 0, .inl 0, .inl 0, .inl 0]) (by decide +kernel) ha rfl (n' := n + 3) rfl (c' := 3) rfl (s' := 131085) rfl ⟨Nat.le_of_ble_eq_true rfl, Nat.le_of_ble_eq_true rfl⟩ (pc' := 21) rfl ?_
  refine jrun_ok jC X k_GW_init_21 21 _ _ _ o_GW_init_21 ?_
  simp only [k_GW_init_21, jrun, jstep, jldi, jldl, jlda, j1, j2, jl1, jl2, jli, ja1, jbr, jald, jast, jlald, jlast, jalen, jget, jput, jfit, jdup, jdupx, jdupx2, jdup2, jcat, jset1, jset2, jkill, List.getElem?_cons_zero, List.getElem?_cons_succ, List.set_cons_zero, List.set_cons_succ, List.length_cons, List.length_nil, Nat.reduceAdd, Nat.reduceLT, Int32.reduceToNatClampNeg, true_and, and_true, and_self, reduceCtorEq, not_false_eq_true, false_and, and_false, or_false, false_or, true_or, or_true, jmk_a, jmk_put, hak, hak0]
  refine jk_Ig X hR d_GW_init_22 q_GW_init_22 m_SI_init i_SI_init rfl rfl (vals := []) (r := [.inr (.inr (some (.inl (n + 2)))), .inr (.inr (some (.inl (a))))]) (c_SI_init M.2.1 E (jmk σ a n (.inr (5, [.inr (.inr (some (.inl n))), .inr (.inr none), .inr (.inr none)])) ([.inr (1, [.inr (.inr (some (.inl (n + 1)))), .inl 0]), .inl (.byte, 131072, .inl fun _ => 0)] ++ [.inr (3, [.inr (.inr none), .inr (.inr none), .inl 0, .inl 0, .inl 0, .inl 0, .inl 0, .inl 0, .inl 0, .inl 0, .inl 0])])) (n + 3) (n + 2) (by omega) (jmk_at (k := 2) ha (by rfl))) rfl rfl ⟨Nat.le_of_ble_eq_true rfl, Nat.le_of_ble_eq_true rfl⟩ (c' := 5) rfl (s' := 134548) rfl ⟨Nat.le_of_ble_eq_true rfl, Nat.le_of_ble_eq_true rfl⟩ (Nat.le_of_ble_eq_true rfl) (pc' := 25) rfl ?_
  rintro _ _ _ ⟨rfl, rfl, rfl⟩
  rw [jmk_nest (a := a) (n := n) (b := n + 2) (m := n + 3) (cs := [.inr (1, [.inr (.inr (some (.inl (n + 1)))), .inl 0]), .inl (.byte, 131072, .inl fun _ => 0)]) ha rfl rfl]
  show jJ E jcl 1 M _ (n + 5) 5 (134548) 25 [some (.inr (.inr (some (.inl (a)))))] [.inr (.inr (some (.inl (n + 2)))), .inr (.inr (some (.inl (a))))] (jmk σ a n (.inr (5, [.inr (.inr (some (.inl n))), .inr (.inr none), .inr (.inr none)])) [.inr (1, [.inr (.inr (some (.inl (n + 1)))), .inl 0]), .inl (.byte, 131072, .inl fun _ => 0), .inr (3, [.inr (.inr (some (.inl (n + 3)))), .inr (.inr (some (.inl (n + 4)))), .inl 0, .inl 0, .inl 0, .inl 0, .inl 0, .inl 0, .inl 0, .inl 0, .inl 0]), .inl (.int, 3456, .inl fun _ => 0), .inl (.int, 7, .inl fun _ => 0)])
  refine jrun_ok jC X k_GW_init_25 25 _ _ _ o_GW_init_25 ?_
  simp only [k_GW_init_25, jrun, jstep, jldi, jldl, jlda, j1, j2, jl1, jl2, jli, ja1, jbr, jald, jast, jlald, jlast, jalen, jget, jput, jfit, jdup, jdupx, jdupx2, jdup2, jcat, jset1, jset2, jkill, List.getElem?_cons_zero, List.getElem?_cons_succ, List.set_cons_zero, List.set_cons_succ, List.length_cons, List.length_nil, Nat.reduceAdd, Nat.reduceLT, Int32.reduceToNatClampNeg, true_and, and_true, and_self, reduceCtorEq, not_false_eq_true, false_and, and_false, or_false, false_or, true_or, or_true, jmk_a, jmk_put, hak, hak0]
  exact jk_vret X d_GW_init_28 hr (Nat.le_refl _) (Nat.le_refl _) ⟨rfl, rfl, rfl⟩
set_option maxRecDepth 100000 in
set_option maxHeartbeats 4000000 in
theorem c_SE_init (l : Launch) (E : jE) (σ : Nat → jcell) (n : Nat) (a : Nat) (ha : a < n) (h : σ a = .inr (6, [.inl 0, .inr (.inr none), .inr (.inr none), .inr (.inr none), .inl 0, .inr (.inr none), .inl 0])) : jMet l E jcl jtb lw_tbl y_SE_init { frames := 1, cells := 3, slots := 20752, locals := 20 } [.inr (.inr (some (.inl (a))))] σ n (fun r σ' n' => r = none ∧ n' = n + 3 ∧ σ' = jmk σ a n (.inr (6, [.inl 0, .inr (.inr (some (.inl n))), .inr (.inr (some (.inl (n + 1)))), .inr (.inr (some (.inl (n + 2)))), .inl 0, .inr (.inr none), .inl 0])) [.inl (.int, 20736, .inl fun _ => 0), .inl (.int, 8, .inl fun _ => 0), .inl (.long, 8, .inr (.inl fun _ => 0))]) := by
  refine jMet_of (hY := rfl) true (fun h => rfl) (by decide) (Nat.le_of_ble_eq_true rfl) [some (.inr (.inr (some (.inl (a)))))] rfl ?_
  intro M hl hR X hr
  have hak : ∀ k, (a < n + k) = True := fun k => eq_true (by omega)
  have hak0 : (a < n) = True := eq_true ha
  refine jmk_in h ?_
  refine jrun_ok jC X k_SE_init_0 0 _ _ _ o_SE_init_0 ?_
  simp only [k_SE_init_0, jrun, jstep, jldi, jldl, jlda, j1, j2, jl1, jl2, jli, ja1, jbr, jald, jast, jlald, jlast, jalen, jget, jput, jfit, jdup, jdupx, jdupx2, jdup2, jcat, jset1, jset2, jkill, List.getElem?_cons_zero, List.getElem?_cons_succ, List.set_cons_zero, List.set_cons_succ, List.length_cons, List.length_nil, Nat.reduceAdd, Nat.reduceLT, Int32.reduceToNatClampNeg, true_and, and_true, and_self, reduceCtorEq, not_false_eq_true, false_and, and_false, or_false, false_or, true_or, or_true, jmk_a, jmk_put, hak, hak0]
  refine jk_oi X hR (w1 := 500) (w2 := 340) (w3 := 341) d_SE_init_1 (by decide +kernel) (by decide +kernel) (by decide +kernel) (Nat.le_of_ble_eq_true rfl) (Nat.le_of_ble_eq_true rfl) (pc' := 4) rfl ?_
  refine jrun_ok jC X k_SE_init_4 4 _ _ _ o_SE_init_4 ?_
  simp only [k_SE_init_4, jrun, jstep, jldi, jldl, jlda, j1, j2, jl1, jl2, jli, ja1, jbr, jald, jast, jlald, jlast, jalen, jget, jput, jfit, jdup, jdupx, jdupx2, jdup2, jcat, jset1, jset2, jkill, List.getElem?_cons_zero, List.getElem?_cons_succ, List.set_cons_zero, List.set_cons_succ, List.length_cons, List.length_nil, Nat.reduceAdd, Nat.reduceLT, Int32.reduceToNatClampNeg, true_and, and_true, and_self, reduceCtorEq, not_false_eq_true, false_and, and_false, or_false, false_or, true_or, or_true, jmk_a, jmk_put, hak, hak0]
  refine jc_na X hR (w1 := 387) d_SE_init_8 rfl (by decide +kernel) (by decide) (by decide) 20736 (by decide) (by decide) rfl [.inl (.int, 20736, .inl fun _ => 0)] ha rfl rfl (n' := n + 1) rfl (c' := 1) rfl (s' := 20736) rfl ⟨Nat.le_of_ble_eq_true rfl, Nat.le_of_ble_eq_true rfl⟩ (pc' := 10) rfl ?_
  refine jrun_ok jC X k_SE_init_10 10 _ _ _ o_SE_init_10 ?_
  simp only [k_SE_init_10, jrun, jstep, jldi, jldl, jlda, j1, j2, jl1, jl2, jli, ja1, jbr, jald, jast, jlald, jlast, jalen, jget, jput, jfit, jdup, jdupx, jdupx2, jdup2, jcat, jset1, jset2, jkill, List.getElem?_cons_zero, List.getElem?_cons_succ, List.set_cons_zero, List.set_cons_succ, List.length_cons, List.length_nil, Nat.reduceAdd, Nat.reduceLT, Int32.reduceToNatClampNeg, true_and, and_true, and_self, reduceCtorEq, not_false_eq_true, false_and, and_false, or_false, false_or, true_or, or_true, jmk_a, jmk_put, hak, hak0]
  refine jc_na X hR (w1 := 387) d_SE_init_16 rfl (by decide +kernel) (by decide) (by decide) 8 (by decide) (by decide) rfl [.inl (.int, 20736, .inl fun _ => 0), .inl (.int, 8, .inl fun _ => 0)] ha rfl rfl (n' := n + 2) rfl (c' := 2) rfl (s' := 20744) rfl ⟨Nat.le_of_ble_eq_true rfl, Nat.le_of_ble_eq_true rfl⟩ (pc' := 18) rfl ?_
  refine jrun_ok jC X k_SE_init_18 18 _ _ _ o_SE_init_18 ?_
  simp only [k_SE_init_18, jrun, jstep, jldi, jldl, jlda, j1, j2, jl1, jl2, jli, ja1, jbr, jald, jast, jlald, jlast, jalen, jget, jput, jfit, jdup, jdupx, jdupx2, jdup2, jcat, jset1, jset2, jkill, List.getElem?_cons_zero, List.getElem?_cons_succ, List.set_cons_zero, List.set_cons_succ, List.length_cons, List.length_nil, Nat.reduceAdd, Nat.reduceLT, Int32.reduceToNatClampNeg, true_and, and_true, and_self, reduceCtorEq, not_false_eq_true, false_and, and_false, or_false, false_or, true_or, or_true, jmk_a, jmk_put, hak, hak0]
  refine jc_na X hR (w1 := 524) d_SE_init_24 rfl (by decide +kernel) (by decide) (by decide) 8 (by decide) (by decide) rfl [.inl (.int, 20736, .inl fun _ => 0), .inl (.int, 8, .inl fun _ => 0), .inl (.long, 8, .inr (.inl fun _ => 0))] ha rfl rfl (n' := n + 3) rfl (c' := 3) rfl (s' := 20752) rfl ⟨Nat.le_of_ble_eq_true rfl, Nat.le_of_ble_eq_true rfl⟩ (pc' := 26) rfl ?_
  refine jrun_ok jC X k_SE_init_26 26 _ _ _ o_SE_init_26 ?_
  simp only [k_SE_init_26, jrun, jstep, jldi, jldl, jlda, j1, j2, jl1, jl2, jli, ja1, jbr, jald, jast, jlald, jlast, jalen, jget, jput, jfit, jdup, jdupx, jdupx2, jdup2, jcat, jset1, jset2, jkill, List.getElem?_cons_zero, List.getElem?_cons_succ, List.set_cons_zero, List.set_cons_succ, List.length_cons, List.length_nil, Nat.reduceAdd, Nat.reduceLT, Int32.reduceToNatClampNeg, true_and, and_true, and_self, reduceCtorEq, not_false_eq_true, false_and, and_false, or_false, false_or, true_or, or_true, jmk_a, jmk_put, hak, hak0]
  exact jk_vret X d_SE_init_29 hr (Nat.le_refl _) (Nat.le_refl _) ⟨rfl, rfl, rfl⟩
set_option maxRecDepth 100000 in
set_option maxHeartbeats 4000000 in
theorem c_PR_init (l : Launch) (E : jE) (σ : Nat → jcell) (n : Nat) (a : Nat) (ha : a < n) (h : σ a = .inr (7, [.inl 0, .inl 0, .inl 0, .inl 0, .inr (.inr none), .inr (.inr none), .inr (.inr none), .inr (.inr none), .inl 0, .inl 0])) : jMet l E jcl jtb lw_tbl y_PR_init { frames := 1, cells := 3, slots := 13832, locals := 20 } [.inr (.inr (some (.inl (a))))] σ n (fun r σ' n' => r = none ∧ n' = n + 3 ∧ σ' = jmk σ a n (.inr (7, [.inl 0, .inl 0, .inl 0, .inl 0, .inr (.inr (some (.inl n))), .inr (.inr (some (.inl (n + 1)))), .inr (.inr (some (.inl (n + 2)))), .inr (.inr none), .inl 0, .inl 0])) [.inl (.int, 4, .inl fun _ => 0), .inl (.long, 4, .inr (.inl fun _ => 0)), .inl (.int, 13824, .inl fun _ => 0)]) := by
  refine jMet_of (hY := rfl) true (fun h => rfl) (by decide) (Nat.le_of_ble_eq_true rfl) [some (.inr (.inr (some (.inl (a)))))] rfl ?_
  intro M hl hR X hr
  have hak : ∀ k, (a < n + k) = True := fun k => eq_true (by omega)
  have hak0 : (a < n) = True := eq_true ha
  refine jmk_in h ?_
  refine jrun_ok jC X k_PR_init_0 0 _ _ _ o_PR_init_0 ?_
  simp only [k_PR_init_0, jrun, jstep, jldi, jldl, jlda, j1, j2, jl1, jl2, jli, ja1, jbr, jald, jast, jlald, jlast, jalen, jget, jput, jfit, jdup, jdupx, jdupx2, jdup2, jcat, jset1, jset2, jkill, List.getElem?_cons_zero, List.getElem?_cons_succ, List.set_cons_zero, List.set_cons_succ, List.length_cons, List.length_nil, Nat.reduceAdd, Nat.reduceLT, Int32.reduceToNatClampNeg, true_and, and_true, and_self, reduceCtorEq, not_false_eq_true, false_and, and_false, or_false, false_or, true_or, or_true, jmk_a, jmk_put, hak, hak0]
  refine jk_oi X hR (w1 := 530) (w2 := 340) (w3 := 341) d_PR_init_1 (by decide +kernel) (by decide +kernel) (by decide +kernel) (Nat.le_of_ble_eq_true rfl) (Nat.le_of_ble_eq_true rfl) (pc' := 4) rfl ?_
  refine jrun_ok jC X k_PR_init_4 4 _ _ _ o_PR_init_4 ?_
  simp only [k_PR_init_4, jrun, jstep, jldi, jldl, jlda, j1, j2, jl1, jl2, jli, ja1, jbr, jald, jast, jlald, jlast, jalen, jget, jput, jfit, jdup, jdupx, jdupx2, jdup2, jcat, jset1, jset2, jkill, List.getElem?_cons_zero, List.getElem?_cons_succ, List.set_cons_zero, List.set_cons_succ, List.length_cons, List.length_nil, Nat.reduceAdd, Nat.reduceLT, Int32.reduceToNatClampNeg, true_and, and_true, and_self, reduceCtorEq, not_false_eq_true, false_and, and_false, or_false, false_or, true_or, or_true, jmk_a, jmk_put, hak, hak0]
  refine jc_na X hR (w1 := 387) d_PR_init_6 rfl (by decide +kernel) (by decide) (by decide) 4 (by decide) (by decide) rfl [.inl (.int, 4, .inl fun _ => 0)] ha rfl rfl (n' := n + 1) rfl (c' := 1) rfl (s' := 4) rfl ⟨Nat.le_of_ble_eq_true rfl, Nat.le_of_ble_eq_true rfl⟩ (pc' := 8) rfl ?_
  refine jrun_ok jC X k_PR_init_8 8 _ _ _ o_PR_init_8 ?_
  simp only [k_PR_init_8, jrun, jstep, jldi, jldl, jlda, j1, j2, jl1, jl2, jli, ja1, jbr, jald, jast, jlald, jlast, jalen, jget, jput, jfit, jdup, jdupx, jdupx2, jdup2, jcat, jset1, jset2, jkill, List.getElem?_cons_zero, List.getElem?_cons_succ, List.set_cons_zero, List.set_cons_succ, List.length_cons, List.length_nil, Nat.reduceAdd, Nat.reduceLT, Int32.reduceToNatClampNeg, true_and, and_true, and_self, reduceCtorEq, not_false_eq_true, false_and, and_false, or_false, false_or, true_or, or_true, jmk_a, jmk_put, hak, hak0]
  refine jc_na X hR (w1 := 524) d_PR_init_13 rfl (by decide +kernel) (by decide) (by decide) 4 (by decide) (by decide) rfl [.inl (.int, 4, .inl fun _ => 0), .inl (.long, 4, .inr (.inl fun _ => 0))] ha rfl rfl (n' := n + 2) rfl (c' := 2) rfl (s' := 8) rfl ⟨Nat.le_of_ble_eq_true rfl, Nat.le_of_ble_eq_true rfl⟩ (pc' := 15) rfl ?_
  refine jrun_ok jC X k_PR_init_15 15 _ _ _ o_PR_init_15 ?_
  simp only [k_PR_init_15, jrun, jstep, jldi, jldl, jlda, j1, j2, jl1, jl2, jli, ja1, jbr, jald, jast, jlald, jlast, jalen, jget, jput, jfit, jdup, jdupx, jdupx2, jdup2, jcat, jset1, jset2, jkill, List.getElem?_cons_zero, List.getElem?_cons_succ, List.set_cons_zero, List.set_cons_succ, List.length_cons, List.length_nil, Nat.reduceAdd, Nat.reduceLT, Int32.reduceToNatClampNeg, true_and, and_true, and_self, reduceCtorEq, not_false_eq_true, false_and, and_false, or_false, false_or, true_or, or_true, jmk_a, jmk_put, hak, hak0]
  refine jc_na X hR (w1 := 387) d_PR_init_22 rfl (by decide +kernel) (by decide) (by decide) 13824 (by decide) (by decide) rfl [.inl (.int, 4, .inl fun _ => 0), .inl (.long, 4, .inr (.inl fun _ => 0)), .inl (.int, 13824, .inl fun _ => 0)] ha rfl rfl (n' := n + 3) rfl (c' := 3) rfl (s' := 13832) rfl ⟨Nat.le_of_ble_eq_true rfl, Nat.le_of_ble_eq_true rfl⟩ (pc' := 24) rfl ?_
  refine jrun_ok jC X k_PR_init_24 24 _ _ _ o_PR_init_24 ?_
  simp only [k_PR_init_24, jrun, jstep, jldi, jldl, jlda, j1, j2, jl1, jl2, jli, ja1, jbr, jald, jast, jlald, jlast, jalen, jget, jput, jfit, jdup, jdupx, jdupx2, jdup2, jcat, jset1, jset2, jkill, List.getElem?_cons_zero, List.getElem?_cons_succ, List.set_cons_zero, List.set_cons_succ, List.length_cons, List.length_nil, Nat.reduceAdd, Nat.reduceLT, Int32.reduceToNatClampNeg, true_and, and_true, and_self, reduceCtorEq, not_false_eq_true, false_and, and_false, or_false, false_or, true_or, or_true, jmk_a, jmk_put, hak, hak0]
  exact jk_vret X d_PR_init_27 hr (Nat.le_refl _) (Nat.le_refl _) ⟨rfl, rfl, rfl⟩
set_option maxRecDepth 100000 in
set_option maxHeartbeats 4000000 in
theorem c_EN_init (l : Launch) (E : jE) (σ : Nat → jcell) (n : Nat) (a : Nat) (ha : a < n) (h : σ a = .inr (8, [.inl 0, .inl 0, .inr (.inr none), .inr (.inr none), .inr (.inr none), .inr (.inr none), .inr (.inr none), .inr (.inr none), .inl 0, .inl 0])) : jMet l E jcl jtb lw_tbl y_EN_init { frames := 1, cells := 2, slots := 1728, locals := 20 } [.inr (.inr (some (.inl (a))))] σ n (fun r σ' n' => r = none ∧ n' = n + 2 ∧ σ' = jmk σ a n (.inr (8, [.inl 0, .inl 0, .inr (.inr (some (.inl n))), .inr (.inr none), .inr (.inr none), .inr (.inr none), .inr (.inr none), .inr (.inr (some (.inl (n + 1)))), .inl 0, .inl 0])) [.inl (.int, 1728, .inl fun _ => 0), .inl (.int, 0, .inl fun _ => 0)]) := by
  refine jMet_of (hY := rfl) true (fun h => rfl) (by decide) (Nat.le_of_ble_eq_true rfl) [some (.inr (.inr (some (.inl (a)))))] rfl ?_
  intro M hl hR X hr
  have hak : ∀ k, (a < n + k) = True := fun k => eq_true (by omega)
  have hak0 : (a < n) = True := eq_true ha
  refine jmk_in h ?_
  refine jrun_ok jC X k_EN_init_0 0 _ _ _ o_EN_init_0 ?_
  simp only [k_EN_init_0, jrun, jstep, jldi, jldl, jlda, j1, j2, jl1, jl2, jli, ja1, jbr, jald, jast, jlald, jlast, jalen, jget, jput, jfit, jdup, jdupx, jdupx2, jdup2, jcat, jset1, jset2, jkill, List.getElem?_cons_zero, List.getElem?_cons_succ, List.set_cons_zero, List.set_cons_succ, List.length_cons, List.length_nil, Nat.reduceAdd, Nat.reduceLT, Int32.reduceToNatClampNeg, true_and, and_true, and_self, reduceCtorEq, not_false_eq_true, false_and, and_false, or_false, false_or, true_or, or_true, jmk_a, jmk_put, hak, hak0]
  refine jk_oi X hR (w1 := 573) (w2 := 340) (w3 := 341) d_EN_init_1 (by decide +kernel) (by decide +kernel) (by decide +kernel) (Nat.le_of_ble_eq_true rfl) (Nat.le_of_ble_eq_true rfl) (pc' := 4) rfl ?_
  refine jrun_ok jC X k_EN_init_4 4 _ _ _ o_EN_init_4 ?_
  simp only [k_EN_init_4, jrun, jstep, jldi, jldl, jlda, j1, j2, jl1, jl2, jli, ja1, jbr, jald, jast, jlald, jlast, jalen, jget, jput, jfit, jdup, jdupx, jdupx2, jdup2, jcat, jset1, jset2, jkill, List.getElem?_cons_zero, List.getElem?_cons_succ, List.set_cons_zero, List.set_cons_succ, List.length_cons, List.length_nil, Nat.reduceAdd, Nat.reduceLT, Int32.reduceToNatClampNeg, true_and, and_true, and_self, reduceCtorEq, not_false_eq_true, false_and, and_false, or_false, false_or, true_or, or_true, jmk_a, jmk_put, hak, hak0]
  refine jc_na X hR (w1 := 387) d_EN_init_8 rfl (by decide +kernel) (by decide) (by decide) 1728 (by decide) (by decide) rfl [.inl (.int, 1728, .inl fun _ => 0)] ha rfl rfl (n' := n + 1) rfl (c' := 1) rfl (s' := 1728) rfl ⟨Nat.le_of_ble_eq_true rfl, Nat.le_of_ble_eq_true rfl⟩ (pc' := 10) rfl ?_
  refine jrun_ok jC X k_EN_init_10 10 _ _ _ o_EN_init_10 ?_
  simp only [k_EN_init_10, jrun, jstep, jldi, jldl, jlda, j1, j2, jl1, jl2, jli, ja1, jbr, jald, jast, jlald, jlast, jalen, jget, jput, jfit, jdup, jdupx, jdupx2, jdup2, jcat, jset1, jset2, jkill, List.getElem?_cons_zero, List.getElem?_cons_succ, List.set_cons_zero, List.set_cons_succ, List.length_cons, List.length_nil, Nat.reduceAdd, Nat.reduceLT, Int32.reduceToNatClampNeg, true_and, and_true, and_self, reduceCtorEq, not_false_eq_true, false_and, and_false, or_false, false_or, true_or, or_true, jmk_a, jmk_put, hak, hak0]
  refine jc_na X hR (w1 := 387) d_EN_init_15 rfl (by decide +kernel) (by decide) (by decide) 0 (by decide) (by decide) rfl [.inl (.int, 1728, .inl fun _ => 0), .inl (.int, 0, .inl fun _ => 0)] ha rfl rfl (n' := n + 2) rfl (c' := 2) rfl (s' := 1728) rfl ⟨Nat.le_of_ble_eq_true rfl, Nat.le_of_ble_eq_true rfl⟩ (pc' := 17) rfl ?_
  refine jrun_ok jC X k_EN_init_17 17 _ _ _ o_EN_init_17 ?_
  simp only [k_EN_init_17, jrun, jstep, jldi, jldl, jlda, j1, j2, jl1, jl2, jli, ja1, jbr, jald, jast, jlald, jlast, jalen, jget, jput, jfit, jdup, jdupx, jdupx2, jdup2, jcat, jset1, jset2, jkill, List.getElem?_cons_zero, List.getElem?_cons_succ, List.set_cons_zero, List.set_cons_succ, List.length_cons, List.length_nil, Nat.reduceAdd, Nat.reduceLT, Int32.reduceToNatClampNeg, true_and, and_true, and_self, reduceCtorEq, not_false_eq_true, false_and, and_false, or_false, false_or, true_or, or_true, jmk_a, jmk_put, hak, hak0]
  exact jk_vret X d_EN_init_20 hr (Nat.le_refl _) (Nat.le_refl _) ⟨rfl, rfl, rfl⟩
set_option maxRecDepth 100000 in
set_option maxHeartbeats 4000000 in
theorem c_MB_init (l : Launch) (E : jE) (σ : Nat → jcell) (n : Nat) (a : Nat) (ha : a < n) (h : σ a = .inr (13, [.inl 0, .inr (.inr none), .inr (.inr none), .inl 0, .inl 0, .inl 0, .inl 0, .inl 0, .inl 0, .inr (.inr none), .inr (.inr none), .inr (.inr none), .inr (.inr none), .inr (.inr none), .inr (.inr none), .inr (.inr none), .inr (.inr none), .inr (.inr none), .inr (.inr none), .inr (.inr none), .inr (.inr none), .inr (.inr none), .inr (.inr none), .inl 0, .inl 0, .inl 0, .inl 0, .inl 0, .inr (.inr none), .inl 0, .inr (.inr none), .inl 0, .inl 0, .inr (.inr none), .inr (.inr none), .inr (.inr none), .inl 0])) : jMet l E jcl jtb lw_tbl y_MB_init { frames := 1, cells := 20, slots := 109261, locals := 20 } [.inr (.inr (some (.inl (a))))] σ n (fun r σ' n' => r = none ∧ n' = n + 20 ∧ σ' = jmk σ a n (.inr (13, [.inl 0, .inr (.inr (some (.inl n))), .inr (.inr (some (.inl (n + 1)))), .inl 0, .inl 0, .inl (-1), .inl 0, .inl 0, .inl 0, .inr (.inr (some (.inl (n + 2)))), .inr (.inr (some (.inl (n + 3)))), .inr (.inr (some (.inl (n + 4)))), .inr (.inr (some (.inl (n + 5)))), .inr (.inr (some (.inl (n + 6)))), .inr (.inr (some (.inl (n + 7)))), .inr (.inr (some (.inl (n + 8)))), .inr (.inr (some (.inl (n + 9)))), .inr (.inr (some (.inl (n + 10)))), .inr (.inr (some (.inl (n + 11)))), .inr (.inr (some (.inl (n + 12)))), .inr (.inr (some (.inl (n + 13)))), .inr (.inr (some (.inl (n + 14)))), .inr (.inr (some (.inl (n + 15)))), .inl 0, .inl 0, .inl 0, .inl 0, .inl 0, .inr (.inr (some (.inl (n + 16)))), .inl 0, .inr (.inr (some (.inl (n + 17)))), .inl 0, .inl 0, .inr (.inr (some (.inl (n + 18)))), .inr (.inr (some (.inl (n + 19)))), .inr (.inr none), .inl 0])) [.inl (.char, 65536, .inl fun _ => 0), .inl (.int, 64, .inl fun _ => 0), .inl (.int, 19520, .inl fun _ => 0), .inl (.int, 305, .inl fun _ => 0), .inl (.int, 305, .inl fun _ => 0), .inl (.int, 305, .inl fun _ => 0), .inl (.int, 305, .inl fun _ => 0), .inl (.int, 305, .inl fun _ => 0), .inl (.int, 11, .inl fun _ => 0), .inl (.int, 11, .inl fun _ => 0), .inl (.int, 11, .inl fun _ => 0), .inl (.int, 11, .inl fun _ => 0), .inl (.int, 11, .inl fun _ => 0), .inl (.int, 11, .inl fun _ => 0), .inl (.int, 20480, .inl fun _ => 0), .inl (.int, 10, .inl fun _ => 0), .inl (.int, 4, .inl fun _ => 0), .inl (.int, 2048, .inl fun _ => 0), .inl (.int, 4, .inl fun _ => 0), .inl (.int, 4, .inl fun _ => 0)]) := by
  refine jMet_of (hY := rfl) true (fun h => rfl) (by decide) (Nat.le_of_ble_eq_true rfl) [some (.inr (.inr (some (.inl (a)))))] rfl ?_
  intro M hl hR X hr
  have hak : ∀ k, (a < n + k) = True := fun k => eq_true (by omega)
  have hak0 : (a < n) = True := eq_true ha
  refine jmk_in h ?_
  refine jrun_ok jC X k_MB_init_0 0 _ _ _ o_MB_init_0 ?_
  simp only [k_MB_init_0, jrun, jstep, jldi, jldl, jlda, j1, j2, jl1, jl2, jli, ja1, jbr, jald, jast, jlald, jlast, jalen, jget, jput, jfit, jdup, jdupx, jdupx2, jdup2, jcat, jset1, jset2, jkill, List.getElem?_cons_zero, List.getElem?_cons_succ, List.set_cons_zero, List.set_cons_succ, List.length_cons, List.length_nil, Nat.reduceAdd, Nat.reduceLT, Int32.reduceToNatClampNeg, true_and, and_true, and_self, reduceCtorEq, not_false_eq_true, false_and, and_false, or_false, false_or, true_or, or_true, jmk_a, jmk_put, hak, hak0]
  refine jk_oi X hR (w1 := 2168) (w2 := 340) (w3 := 341) d_MB_init_1 (by decide +kernel) (by decide +kernel) (by decide +kernel) (Nat.le_of_ble_eq_true rfl) (Nat.le_of_ble_eq_true rfl) (pc' := 4) rfl ?_
  refine jrun_ok jC X k_MB_init_4 4 _ _ _ o_MB_init_4 ?_
  simp only [k_MB_init_4, jrun, jstep, jldi, jldl, jlda, j1, j2, jl1, jl2, jli, ja1, jbr, jald, jast, jlald, jlast, jalen, jget, jput, jfit, jdup, jdupx, jdupx2, jdup2, jcat, jset1, jset2, jkill, List.getElem?_cons_zero, List.getElem?_cons_succ, List.set_cons_zero, List.set_cons_succ, List.length_cons, List.length_nil, Nat.reduceAdd, Nat.reduceLT, Int32.reduceToNatClampNeg, true_and, and_true, and_self, reduceCtorEq, not_false_eq_true, false_and, and_false, or_false, false_or, true_or, or_true, jmk_a, jmk_put, hak, hak0]
  refine jc_na X hR (w1 := 2162) d_MB_init_7 rfl (by decide +kernel) (by decide) (by decide) 65536 (by decide) (by decide) rfl [.inl (.char, 65536, .inl fun _ => 0)] ha rfl rfl (n' := n + 1) rfl (c' := 1) rfl (s' := 65536) rfl ⟨Nat.le_of_ble_eq_true rfl, Nat.le_of_ble_eq_true rfl⟩ (pc' := 9) rfl ?_
  refine jrun_ok jC X k_MB_init_9 9 _ _ _ o_MB_init_9 ?_
  simp only [k_MB_init_9, jrun, jstep, jldi, jldl, jlda, j1, j2, jl1, jl2, jli, ja1, jbr, jald, jast, jlald, jlast, jalen, jget, jput, jfit, jdup, jdupx, jdupx2, jdup2, jcat, jset1, jset2, jkill, List.getElem?_cons_zero, List.getElem?_cons_succ, List.set_cons_zero, List.set_cons_succ, List.length_cons, List.length_nil, Nat.reduceAdd, Nat.reduceLT, Int32.reduceToNatClampNeg, true_and, and_true, and_self, reduceCtorEq, not_false_eq_true, false_and, and_false, or_false, false_or, true_or, or_true, jmk_a, jmk_put, hak, hak0]
  refine jc_na X hR (w1 := 387) d_MB_init_15 rfl (by decide +kernel) (by decide) (by decide) 64 (by decide) (by decide) rfl [.inl (.char, 65536, .inl fun _ => 0), .inl (.int, 64, .inl fun _ => 0)] ha rfl rfl (n' := n + 2) rfl (c' := 2) rfl (s' := 65600) rfl ⟨Nat.le_of_ble_eq_true rfl, Nat.le_of_ble_eq_true rfl⟩ (pc' := 17) rfl ?_
  refine jrun_ok jC X k_MB_init_17 17 _ _ _ o_MB_init_17 ?_
  simp only [k_MB_init_17, jrun, jstep, jldi, jldl, jlda, j1, j2, jl1, jl2, jli, ja1, jbr, jald, jast, jlald, jlast, jalen, jget, jput, jfit, jdup, jdupx, jdupx2, jdup2, jcat, jset1, jset2, jkill, List.getElem?_cons_zero, List.getElem?_cons_succ, List.set_cons_zero, List.set_cons_succ, List.length_cons, List.length_nil, Nat.reduceAdd, Nat.reduceLT, Int32.reduceToNatClampNeg, true_and, and_true, and_self, reduceCtorEq, not_false_eq_true, false_and, and_false, or_false, false_or, true_or, or_true, jmk_a, jmk_put, hak, hak0]
  refine jc_na X hR (w1 := 387) d_MB_init_29 rfl (by decide +kernel) (by decide) (by decide) 19520 (by decide) (by decide) rfl [.inl (.char, 65536, .inl fun _ => 0), .inl (.int, 64, .inl fun _ => 0), .inl (.int, 19520, .inl fun _ => 0)] ha rfl rfl (n' := n + 3) rfl (c' := 3) rfl (s' := 85120) rfl ⟨Nat.le_of_ble_eq_true rfl, Nat.le_of_ble_eq_true rfl⟩ (pc' := 31) rfl ?_
  refine jrun_ok jC X k_MB_init_31 31 _ _ _ o_MB_init_31 ?_
  simp only [k_MB_init_31, jrun, jstep, jldi, jldl, jlda, j1, j2, jl1, jl2, jli, ja1, jbr, jald, jast, jlald, jlast, jalen, jget, jput, jfit, jdup, jdupx, jdupx2, jdup2, jcat, jset1, jset2, jkill, List.getElem?_cons_zero, List.getElem?_cons_succ, List.set_cons_zero, List.set_cons_succ, List.length_cons, List.length_nil, Nat.reduceAdd, Nat.reduceLT, Int32.reduceToNatClampNeg, true_and, and_true, and_self, reduceCtorEq, not_false_eq_true, false_and, and_false, or_false, false_or, true_or, or_true, jmk_a, jmk_put, hak, hak0]
  refine jc_na X hR (w1 := 387) d_MB_init_38 rfl (by decide +kernel) (by decide) (by decide) 305 (by decide) (by decide) rfl [.inl (.char, 65536, .inl fun _ => 0), .inl (.int, 64, .inl fun _ => 0), .inl (.int, 19520, .inl fun _ => 0), .inl (.int, 305, .inl fun _ => 0)] ha rfl rfl (n' := n + 4) rfl (c' := 4) rfl (s' := 85425) rfl ⟨Nat.le_of_ble_eq_true rfl, Nat.le_of_ble_eq_true rfl⟩ (pc' := 40) rfl ?_
  refine jrun_ok jC X k_MB_init_40 40 _ _ _ o_MB_init_40 ?_
  simp only [k_MB_init_40, jrun, jstep, jldi, jldl, jlda, j1, j2, jl1, jl2, jli, ja1, jbr, jald, jast, jlald, jlast, jalen, jget, jput, jfit, jdup, jdupx, jdupx2, jdup2, jcat, jset1, jset2, jkill, List.getElem?_cons_zero, List.getElem?_cons_succ, List.set_cons_zero, List.set_cons_succ, List.length_cons, List.length_nil, Nat.reduceAdd, Nat.reduceLT, Int32.reduceToNatClampNeg, true_and, and_true, and_self, reduceCtorEq, not_false_eq_true, false_and, and_false, or_false, false_or, true_or, or_true, jmk_a, jmk_put, hak, hak0]
  refine jc_na X hR (w1 := 387) d_MB_init_47 rfl (by decide +kernel) (by decide) (by decide) 305 (by decide) (by decide) rfl [.inl (.char, 65536, .inl fun _ => 0), .inl (.int, 64, .inl fun _ => 0), .inl (.int, 19520, .inl fun _ => 0), .inl (.int, 305, .inl fun _ => 0), .inl (.int, 305, .inl fun _ => 0)] ha rfl rfl (n' := n + 5) rfl (c' := 5) rfl (s' := 85730) rfl ⟨Nat.le_of_ble_eq_true rfl, Nat.le_of_ble_eq_true rfl⟩ (pc' := 49) rfl ?_
  refine jrun_ok jC X k_MB_init_49 49 _ _ _ o_MB_init_49 ?_
  simp only [k_MB_init_49, jrun, jstep, jldi, jldl, jlda, j1, j2, jl1, jl2, jli, ja1, jbr, jald, jast, jlald, jlast, jalen, jget, jput, jfit, jdup, jdupx, jdupx2, jdup2, jcat, jset1, jset2, jkill, List.getElem?_cons_zero, List.getElem?_cons_succ, List.set_cons_zero, List.set_cons_succ, List.length_cons, List.length_nil, Nat.reduceAdd, Nat.reduceLT, Int32.reduceToNatClampNeg, true_and, and_true, and_self, reduceCtorEq, not_false_eq_true, false_and, and_false, or_false, false_or, true_or, or_true, jmk_a, jmk_put, hak, hak0]
  refine jc_na X hR (w1 := 387) d_MB_init_56 rfl (by decide +kernel) (by decide) (by decide) 305 (by decide) (by decide) rfl [.inl (.char, 65536, .inl fun _ => 0), .inl (.int, 64, .inl fun _ => 0), .inl (.int, 19520, .inl fun _ => 0), .inl (.int, 305, .inl fun _ => 0), .inl (.int, 305, .inl fun _ => 0), .inl (.int, 305, .inl fun _ => 0)] ha rfl rfl (n' := n + 6) rfl (c' := 6) rfl (s' := 86035) rfl ⟨Nat.le_of_ble_eq_true rfl, Nat.le_of_ble_eq_true rfl⟩ (pc' := 58) rfl ?_
  refine jrun_ok jC X k_MB_init_58 58 _ _ _ o_MB_init_58 ?_
  simp only [k_MB_init_58, jrun, jstep, jldi, jldl, jlda, j1, j2, jl1, jl2, jli, ja1, jbr, jald, jast, jlald, jlast, jalen, jget, jput, jfit, jdup, jdupx, jdupx2, jdup2, jcat, jset1, jset2, jkill, List.getElem?_cons_zero, List.getElem?_cons_succ, List.set_cons_zero, List.set_cons_succ, List.length_cons, List.length_nil, Nat.reduceAdd, Nat.reduceLT, Int32.reduceToNatClampNeg, true_and, and_true, and_self, reduceCtorEq, not_false_eq_true, false_and, and_false, or_false, false_or, true_or, or_true, jmk_a, jmk_put, hak, hak0]
  refine jc_na X hR (w1 := 387) d_MB_init_65 rfl (by decide +kernel) (by decide) (by decide) 305 (by decide) (by decide) rfl [.inl (.char, 65536, .inl fun _ => 0), .inl (.int, 64, .inl fun _ => 0), .inl (.int, 19520, .inl fun _ => 0), .inl (.int, 305, .inl fun _ => 0), .inl (.int, 305, .inl fun _ => 0), .inl (.int, 305, .inl fun _ => 0), .inl (.int, 305, .inl fun _ => 0)] ha rfl rfl (n' := n + 7) rfl (c' := 7) rfl (s' := 86340) rfl ⟨Nat.le_of_ble_eq_true rfl, Nat.le_of_ble_eq_true rfl⟩ (pc' := 67) rfl ?_
  refine jrun_ok jC X k_MB_init_67 67 _ _ _ o_MB_init_67 ?_
  simp only [k_MB_init_67, jrun, jstep, jldi, jldl, jlda, j1, j2, jl1, jl2, jli, ja1, jbr, jald, jast, jlald, jlast, jalen, jget, jput, jfit, jdup, jdupx, jdupx2, jdup2, jcat, jset1, jset2, jkill, List.getElem?_cons_zero, List.getElem?_cons_succ, List.set_cons_zero, List.set_cons_succ, List.length_cons, List.length_nil, Nat.reduceAdd, Nat.reduceLT, Int32.reduceToNatClampNeg, true_and, and_true, and_self, reduceCtorEq, not_false_eq_true, false_and, and_false, or_false, false_or, true_or, or_true, jmk_a, jmk_put, hak, hak0]
  refine jc_na X hR (w1 := 387) d_MB_init_74 rfl (by decide +kernel) (by decide) (by decide) 305 (by decide) (by decide) rfl [.inl (.char, 65536, .inl fun _ => 0), .inl (.int, 64, .inl fun _ => 0), .inl (.int, 19520, .inl fun _ => 0), .inl (.int, 305, .inl fun _ => 0), .inl (.int, 305, .inl fun _ => 0), .inl (.int, 305, .inl fun _ => 0), .inl (.int, 305, .inl fun _ => 0), .inl (.int, 305, .inl fun _ => 0)] ha rfl rfl (n' := n + 8) rfl (c' := 8) rfl (s' := 86645) rfl ⟨Nat.le_of_ble_eq_true rfl, Nat.le_of_ble_eq_true rfl⟩ (pc' := 76) rfl ?_
  refine jrun_ok jC X k_MB_init_76 76 _ _ _ o_MB_init_76 ?_
  simp only [k_MB_init_76, jrun, jstep, jldi, jldl, jlda, j1, j2, jl1, jl2, jli, ja1, jbr, jald, jast, jlald, jlast, jalen, jget, jput, jfit, jdup, jdupx, jdupx2, jdup2, jcat, jset1, jset2, jkill, List.getElem?_cons_zero, List.getElem?_cons_succ, List.set_cons_zero, List.set_cons_succ, List.length_cons, List.length_nil, Nat.reduceAdd, Nat.reduceLT, Int32.reduceToNatClampNeg, true_and, and_true, and_self, reduceCtorEq, not_false_eq_true, false_and, and_false, or_false, false_or, true_or, or_true, jmk_a, jmk_put, hak, hak0]
  refine jc_na X hR (w1 := 387) d_MB_init_82 rfl (by decide +kernel) (by decide) (by decide) 11 (by decide) (by decide) rfl [.inl (.char, 65536, .inl fun _ => 0), .inl (.int, 64, .inl fun _ => 0), .inl (.int, 19520, .inl fun _ => 0), .inl (.int, 305, .inl fun _ => 0), .inl (.int, 305, .inl fun _ => 0), .inl (.int, 305, .inl fun _ => 0), .inl (.int, 305, .inl fun _ => 0), .inl (.int, 305, .inl fun _ => 0), .inl (.int, 11, .inl fun _ => 0)] ha rfl rfl (n' := n + 9) rfl (c' := 9) rfl (s' := 86656) rfl ⟨Nat.le_of_ble_eq_true rfl, Nat.le_of_ble_eq_true rfl⟩ (pc' := 84) rfl ?_
  refine jrun_ok jC X k_MB_init_84 84 _ _ _ o_MB_init_84 ?_
  simp only [k_MB_init_84, jrun, jstep, jldi, jldl, jlda, j1, j2, jl1, jl2, jli, ja1, jbr, jald, jast, jlald, jlast, jalen, jget, jput, jfit, jdup, jdupx, jdupx2, jdup2, jcat, jset1, jset2, jkill, List.getElem?_cons_zero, List.getElem?_cons_succ, List.set_cons_zero, List.set_cons_succ, List.length_cons, List.length_nil, Nat.reduceAdd, Nat.reduceLT, Int32.reduceToNatClampNeg, true_and, and_true, and_self, reduceCtorEq, not_false_eq_true, false_and, and_false, or_false, false_or, true_or, or_true, jmk_a, jmk_put, hak, hak0]
  refine jc_na X hR (w1 := 387) d_MB_init_90 rfl (by decide +kernel) (by decide) (by decide) 11 (by decide) (by decide) rfl [.inl (.char, 65536, .inl fun _ => 0), .inl (.int, 64, .inl fun _ => 0), .inl (.int, 19520, .inl fun _ => 0), .inl (.int, 305, .inl fun _ => 0), .inl (.int, 305, .inl fun _ => 0), .inl (.int, 305, .inl fun _ => 0), .inl (.int, 305, .inl fun _ => 0), .inl (.int, 305, .inl fun _ => 0), .inl (.int, 11, .inl fun _ => 0), .inl (.int, 11, .inl fun _ => 0)] ha rfl rfl (n' := n + 10) rfl (c' := 10) rfl (s' := 86667) rfl ⟨Nat.le_of_ble_eq_true rfl, Nat.le_of_ble_eq_true rfl⟩ (pc' := 92) rfl ?_
  refine jrun_ok jC X k_MB_init_92 92 _ _ _ o_MB_init_92 ?_
  simp only [k_MB_init_92, jrun, jstep, jldi, jldl, jlda, j1, j2, jl1, jl2, jli, ja1, jbr, jald, jast, jlald, jlast, jalen, jget, jput, jfit, jdup, jdupx, jdupx2, jdup2, jcat, jset1, jset2, jkill, List.getElem?_cons_zero, List.getElem?_cons_succ, List.set_cons_zero, List.set_cons_succ, List.length_cons, List.length_nil, Nat.reduceAdd, Nat.reduceLT, Int32.reduceToNatClampNeg, true_and, and_true, and_self, reduceCtorEq, not_false_eq_true, false_and, and_false, or_false, false_or, true_or, or_true, jmk_a, jmk_put, hak, hak0]
  refine jc_na X hR (w1 := 387) d_MB_init_98 rfl (by decide +kernel) (by decide) (by decide) 11 (by decide) (by decide) rfl [.inl (.char, 65536, .inl fun _ => 0), .inl (.int, 64, .inl fun _ => 0), .inl (.int, 19520, .inl fun _ => 0), .inl (.int, 305, .inl fun _ => 0), .inl (.int, 305, .inl fun _ => 0), .inl (.int, 305, .inl fun _ => 0), .inl (.int, 305, .inl fun _ => 0), .inl (.int, 305, .inl fun _ => 0), .inl (.int, 11, .inl fun _ => 0), .inl (.int, 11, .inl fun _ => 0), .inl (.int, 11, .inl fun _ => 0)] ha rfl rfl (n' := n + 11) rfl (c' := 11) rfl (s' := 86678) rfl ⟨Nat.le_of_ble_eq_true rfl, Nat.le_of_ble_eq_true rfl⟩ (pc' := 100) rfl ?_
  refine jrun_ok jC X k_MB_init_100 100 _ _ _ o_MB_init_100 ?_
  simp only [k_MB_init_100, jrun, jstep, jldi, jldl, jlda, j1, j2, jl1, jl2, jli, ja1, jbr, jald, jast, jlald, jlast, jalen, jget, jput, jfit, jdup, jdupx, jdupx2, jdup2, jcat, jset1, jset2, jkill, List.getElem?_cons_zero, List.getElem?_cons_succ, List.set_cons_zero, List.set_cons_succ, List.length_cons, List.length_nil, Nat.reduceAdd, Nat.reduceLT, Int32.reduceToNatClampNeg, true_and, and_true, and_self, reduceCtorEq, not_false_eq_true, false_and, and_false, or_false, false_or, true_or, or_true, jmk_a, jmk_put, hak, hak0]
  refine jc_na X hR (w1 := 387) d_MB_init_106 rfl (by decide +kernel) (by decide) (by decide) 11 (by decide) (by decide) rfl [.inl (.char, 65536, .inl fun _ => 0), .inl (.int, 64, .inl fun _ => 0), .inl (.int, 19520, .inl fun _ => 0), .inl (.int, 305, .inl fun _ => 0), .inl (.int, 305, .inl fun _ => 0), .inl (.int, 305, .inl fun _ => 0), .inl (.int, 305, .inl fun _ => 0), .inl (.int, 305, .inl fun _ => 0), .inl (.int, 11, .inl fun _ => 0), .inl (.int, 11, .inl fun _ => 0), .inl (.int, 11, .inl fun _ => 0), .inl (.int, 11, .inl fun _ => 0)] ha rfl rfl (n' := n + 12) rfl (c' := 12) rfl (s' := 86689) rfl ⟨Nat.le_of_ble_eq_true rfl, Nat.le_of_ble_eq_true rfl⟩ (pc' := 108) rfl ?_
  refine jrun_ok jC X k_MB_init_108 108 _ _ _ o_MB_init_108 ?_
  simp only [k_MB_init_108, jrun, jstep, jldi, jldl, jlda, j1, j2, jl1, jl2, jli, ja1, jbr, jald, jast, jlald, jlast, jalen, jget, jput, jfit, jdup, jdupx, jdupx2, jdup2, jcat, jset1, jset2, jkill, List.getElem?_cons_zero, List.getElem?_cons_succ, List.set_cons_zero, List.set_cons_succ, List.length_cons, List.length_nil, Nat.reduceAdd, Nat.reduceLT, Int32.reduceToNatClampNeg, true_and, and_true, and_self, reduceCtorEq, not_false_eq_true, false_and, and_false, or_false, false_or, true_or, or_true, jmk_a, jmk_put, hak, hak0]
  refine jc_na X hR (w1 := 387) d_MB_init_114 rfl (by decide +kernel) (by decide) (by decide) 11 (by decide) (by decide) rfl [.inl (.char, 65536, .inl fun _ => 0), .inl (.int, 64, .inl fun _ => 0), .inl (.int, 19520, .inl fun _ => 0), .inl (.int, 305, .inl fun _ => 0), .inl (.int, 305, .inl fun _ => 0), .inl (.int, 305, .inl fun _ => 0), .inl (.int, 305, .inl fun _ => 0), .inl (.int, 305, .inl fun _ => 0), .inl (.int, 11, .inl fun _ => 0), .inl (.int, 11, .inl fun _ => 0), .inl (.int, 11, .inl fun _ => 0), .inl (.int, 11, .inl fun _ => 0), .inl (.int, 11, .inl fun _ => 0)] ha rfl rfl (n' := n + 13) rfl (c' := 13) rfl (s' := 86700) rfl ⟨Nat.le_of_ble_eq_true rfl, Nat.le_of_ble_eq_true rfl⟩ (pc' := 116) rfl ?_
  refine jrun_ok jC X k_MB_init_116 116 _ _ _ o_MB_init_116 ?_
  simp only [k_MB_init_116, jrun, jstep, jldi, jldl, jlda, j1, j2, jl1, jl2, jli, ja1, jbr, jald, jast, jlald, jlast, jalen, jget, jput, jfit, jdup, jdupx, jdupx2, jdup2, jcat, jset1, jset2, jkill, List.getElem?_cons_zero, List.getElem?_cons_succ, List.set_cons_zero, List.set_cons_succ, List.length_cons, List.length_nil, Nat.reduceAdd, Nat.reduceLT, Int32.reduceToNatClampNeg, true_and, and_true, and_self, reduceCtorEq, not_false_eq_true, false_and, and_false, or_false, false_or, true_or, or_true, jmk_a, jmk_put, hak, hak0]
  refine jc_na X hR (w1 := 387) d_MB_init_122 rfl (by decide +kernel) (by decide) (by decide) 11 (by decide) (by decide) rfl [.inl (.char, 65536, .inl fun _ => 0), .inl (.int, 64, .inl fun _ => 0), .inl (.int, 19520, .inl fun _ => 0), .inl (.int, 305, .inl fun _ => 0), .inl (.int, 305, .inl fun _ => 0), .inl (.int, 305, .inl fun _ => 0), .inl (.int, 305, .inl fun _ => 0), .inl (.int, 305, .inl fun _ => 0), .inl (.int, 11, .inl fun _ => 0), .inl (.int, 11, .inl fun _ => 0), .inl (.int, 11, .inl fun _ => 0), .inl (.int, 11, .inl fun _ => 0), .inl (.int, 11, .inl fun _ => 0), .inl (.int, 11, .inl fun _ => 0)] ha rfl rfl (n' := n + 14) rfl (c' := 14) rfl (s' := 86711) rfl ⟨Nat.le_of_ble_eq_true rfl, Nat.le_of_ble_eq_true rfl⟩ (pc' := 124) rfl ?_
  refine jrun_ok jC X k_MB_init_124 124 _ _ _ o_MB_init_124 ?_
  simp only [k_MB_init_124, jrun, jstep, jldi, jldl, jlda, j1, j2, jl1, jl2, jli, ja1, jbr, jald, jast, jlald, jlast, jalen, jget, jput, jfit, jdup, jdupx, jdupx2, jdup2, jcat, jset1, jset2, jkill, List.getElem?_cons_zero, List.getElem?_cons_succ, List.set_cons_zero, List.set_cons_succ, List.length_cons, List.length_nil, Nat.reduceAdd, Nat.reduceLT, Int32.reduceToNatClampNeg, true_and, and_true, and_self, reduceCtorEq, not_false_eq_true, false_and, and_false, or_false, false_or, true_or, or_true, jmk_a, jmk_put, hak, hak0]
  refine jc_na X hR (w1 := 387) d_MB_init_131 rfl (by decide +kernel) (by decide) (by decide) 20480 (by decide) (by decide) rfl [.inl (.char, 65536, .inl fun _ => 0), .inl (.int, 64, .inl fun _ => 0), .inl (.int, 19520, .inl fun _ => 0), .inl (.int, 305, .inl fun _ => 0), .inl (.int, 305, .inl fun _ => 0), .inl (.int, 305, .inl fun _ => 0), .inl (.int, 305, .inl fun _ => 0), .inl (.int, 305, .inl fun _ => 0), .inl (.int, 11, .inl fun _ => 0), .inl (.int, 11, .inl fun _ => 0), .inl (.int, 11, .inl fun _ => 0), .inl (.int, 11, .inl fun _ => 0), .inl (.int, 11, .inl fun _ => 0), .inl (.int, 11, .inl fun _ => 0), .inl (.int, 20480, .inl fun _ => 0)] ha rfl rfl (n' := n + 15) rfl (c' := 15) rfl (s' := 107191) rfl ⟨Nat.le_of_ble_eq_true rfl, Nat.le_of_ble_eq_true rfl⟩ (pc' := 133) rfl ?_
  refine jrun_ok jC X k_MB_init_133 133 _ _ _ o_MB_init_133 ?_
  simp only [k_MB_init_133, jrun, jstep, jldi, jldl, jlda, j1, j2, jl1, jl2, jli, ja1, jbr, jald, jast, jlald, jlast, jalen, jget, jput, jfit, jdup, jdupx, jdupx2, jdup2, jcat, jset1, jset2, jkill, List.getElem?_cons_zero, List.getElem?_cons_succ, List.set_cons_zero, List.set_cons_succ, List.length_cons, List.length_nil, Nat.reduceAdd, Nat.reduceLT, Int32.reduceToNatClampNeg, true_and, and_true, and_self, reduceCtorEq, not_false_eq_true, false_and, and_false, or_false, false_or, true_or, or_true, jmk_a, jmk_put, hak, hak0]
  refine jc_na X hR (w1 := 387) d_MB_init_139 rfl (by decide +kernel) (by decide) (by decide) 10 (by decide) (by decide) rfl [.inl (.char, 65536, .inl fun _ => 0), .inl (.int, 64, .inl fun _ => 0), .inl (.int, 19520, .inl fun _ => 0), .inl (.int, 305, .inl fun _ => 0), .inl (.int, 305, .inl fun _ => 0), .inl (.int, 305, .inl fun _ => 0), .inl (.int, 305, .inl fun _ => 0), .inl (.int, 305, .inl fun _ => 0), .inl (.int, 11, .inl fun _ => 0), .inl (.int, 11, .inl fun _ => 0), .inl (.int, 11, .inl fun _ => 0), .inl (.int, 11, .inl fun _ => 0), .inl (.int, 11, .inl fun _ => 0), .inl (.int, 11, .inl fun _ => 0), .inl (.int, 20480, .inl fun _ => 0), .inl (.int, 10, .inl fun _ => 0)] ha rfl rfl (n' := n + 16) rfl (c' := 16) rfl (s' := 107201) rfl ⟨Nat.le_of_ble_eq_true rfl, Nat.le_of_ble_eq_true rfl⟩ (pc' := 141) rfl ?_
  refine jrun_ok jC X k_MB_init_141 141 _ _ _ o_MB_init_141 ?_
  simp only [k_MB_init_141, jrun, jstep, jldi, jldl, jlda, j1, j2, jl1, jl2, jli, ja1, jbr, jald, jast, jlald, jlast, jalen, jget, jput, jfit, jdup, jdupx, jdupx2, jdup2, jcat, jset1, jset2, jkill, List.getElem?_cons_zero, List.getElem?_cons_succ, List.set_cons_zero, List.set_cons_succ, List.length_cons, List.length_nil, Nat.reduceAdd, Nat.reduceLT, Int32.reduceToNatClampNeg, true_and, and_true, and_self, reduceCtorEq, not_false_eq_true, false_and, and_false, or_false, false_or, true_or, or_true, jmk_a, jmk_put, hak, hak0]
  refine jc_na X hR (w1 := 387) d_MB_init_146 rfl (by decide +kernel) (by decide) (by decide) 4 (by decide) (by decide) rfl [.inl (.char, 65536, .inl fun _ => 0), .inl (.int, 64, .inl fun _ => 0), .inl (.int, 19520, .inl fun _ => 0), .inl (.int, 305, .inl fun _ => 0), .inl (.int, 305, .inl fun _ => 0), .inl (.int, 305, .inl fun _ => 0), .inl (.int, 305, .inl fun _ => 0), .inl (.int, 305, .inl fun _ => 0), .inl (.int, 11, .inl fun _ => 0), .inl (.int, 11, .inl fun _ => 0), .inl (.int, 11, .inl fun _ => 0), .inl (.int, 11, .inl fun _ => 0), .inl (.int, 11, .inl fun _ => 0), .inl (.int, 11, .inl fun _ => 0), .inl (.int, 20480, .inl fun _ => 0), .inl (.int, 10, .inl fun _ => 0), .inl (.int, 4, .inl fun _ => 0)] ha rfl rfl (n' := n + 17) rfl (c' := 17) rfl (s' := 107205) rfl ⟨Nat.le_of_ble_eq_true rfl, Nat.le_of_ble_eq_true rfl⟩ (pc' := 148) rfl ?_
  refine jrun_ok jC X k_MB_init_148 148 _ _ _ o_MB_init_148 ?_
  simp only [k_MB_init_148, jrun, jstep, jldi, jldl, jlda, j1, j2, jl1, jl2, jli, ja1, jbr, jald, jast, jlald, jlast, jalen, jget, jput, jfit, jdup, jdupx, jdupx2, jdup2, jcat, jset1, jset2, jkill, List.getElem?_cons_zero, List.getElem?_cons_succ, List.set_cons_zero, List.set_cons_succ, List.length_cons, List.length_nil, Nat.reduceAdd, Nat.reduceLT, Int32.reduceToNatClampNeg, true_and, and_true, and_self, reduceCtorEq, not_false_eq_true, false_and, and_false, or_false, false_or, true_or, or_true, jmk_a, jmk_put, hak, hak0]
  refine jc_na X hR (w1 := 387) d_MB_init_155 rfl (by decide +kernel) (by decide) (by decide) 2048 (by decide) (by decide) rfl [.inl (.char, 65536, .inl fun _ => 0), .inl (.int, 64, .inl fun _ => 0), .inl (.int, 19520, .inl fun _ => 0), .inl (.int, 305, .inl fun _ => 0), .inl (.int, 305, .inl fun _ => 0), .inl (.int, 305, .inl fun _ => 0), .inl (.int, 305, .inl fun _ => 0), .inl (.int, 305, .inl fun _ => 0), .inl (.int, 11, .inl fun _ => 0), .inl (.int, 11, .inl fun _ => 0), .inl (.int, 11, .inl fun _ => 0), .inl (.int, 11, .inl fun _ => 0), .inl (.int, 11, .inl fun _ => 0), .inl (.int, 11, .inl fun _ => 0), .inl (.int, 20480, .inl fun _ => 0), .inl (.int, 10, .inl fun _ => 0), .inl (.int, 4, .inl fun _ => 0), .inl (.int, 2048, .inl fun _ => 0)] ha rfl rfl (n' := n + 18) rfl (c' := 18) rfl (s' := 109253) rfl ⟨Nat.le_of_ble_eq_true rfl, Nat.le_of_ble_eq_true rfl⟩ (pc' := 157) rfl ?_
  refine jrun_ok jC X k_MB_init_157 157 _ _ _ o_MB_init_157 ?_
  simp only [k_MB_init_157, jrun, jstep, jldi, jldl, jlda, j1, j2, jl1, jl2, jli, ja1, jbr, jald, jast, jlald, jlast, jalen, jget, jput, jfit, jdup, jdupx, jdupx2, jdup2, jcat, jset1, jset2, jkill, List.getElem?_cons_zero, List.getElem?_cons_succ, List.set_cons_zero, List.set_cons_succ, List.length_cons, List.length_nil, Nat.reduceAdd, Nat.reduceLT, Int32.reduceToNatClampNeg, true_and, and_true, and_self, reduceCtorEq, not_false_eq_true, false_and, and_false, or_false, false_or, true_or, or_true, jmk_a, jmk_put, hak, hak0]
  refine jc_na X hR (w1 := 387) d_MB_init_162 rfl (by decide +kernel) (by decide) (by decide) 4 (by decide) (by decide) rfl [.inl (.char, 65536, .inl fun _ => 0), .inl (.int, 64, .inl fun _ => 0), .inl (.int, 19520, .inl fun _ => 0), .inl (.int, 305, .inl fun _ => 0), .inl (.int, 305, .inl fun _ => 0), .inl (.int, 305, .inl fun _ => 0), .inl (.int, 305, .inl fun _ => 0), .inl (.int, 305, .inl fun _ => 0), .inl (.int, 11, .inl fun _ => 0), .inl (.int, 11, .inl fun _ => 0), .inl (.int, 11, .inl fun _ => 0), .inl (.int, 11, .inl fun _ => 0), .inl (.int, 11, .inl fun _ => 0), .inl (.int, 11, .inl fun _ => 0), .inl (.int, 20480, .inl fun _ => 0), .inl (.int, 10, .inl fun _ => 0), .inl (.int, 4, .inl fun _ => 0), .inl (.int, 2048, .inl fun _ => 0), .inl (.int, 4, .inl fun _ => 0)] ha rfl rfl (n' := n + 19) rfl (c' := 19) rfl (s' := 109257) rfl ⟨Nat.le_of_ble_eq_true rfl, Nat.le_of_ble_eq_true rfl⟩ (pc' := 164) rfl ?_
  refine jrun_ok jC X k_MB_init_164 164 _ _ _ o_MB_init_164 ?_
  simp only [k_MB_init_164, jrun, jstep, jldi, jldl, jlda, j1, j2, jl1, jl2, jli, ja1, jbr, jald, jast, jlald, jlast, jalen, jget, jput, jfit, jdup, jdupx, jdupx2, jdup2, jcat, jset1, jset2, jkill, List.getElem?_cons_zero, List.getElem?_cons_succ, List.set_cons_zero, List.set_cons_succ, List.length_cons, List.length_nil, Nat.reduceAdd, Nat.reduceLT, Int32.reduceToNatClampNeg, true_and, and_true, and_self, reduceCtorEq, not_false_eq_true, false_and, and_false, or_false, false_or, true_or, or_true, jmk_a, jmk_put, hak, hak0]
  refine jc_na X hR (w1 := 387) d_MB_init_169 rfl (by decide +kernel) (by decide) (by decide) 4 (by decide) (by decide) rfl [.inl (.char, 65536, .inl fun _ => 0), .inl (.int, 64, .inl fun _ => 0), .inl (.int, 19520, .inl fun _ => 0), .inl (.int, 305, .inl fun _ => 0), .inl (.int, 305, .inl fun _ => 0), .inl (.int, 305, .inl fun _ => 0), .inl (.int, 305, .inl fun _ => 0), .inl (.int, 305, .inl fun _ => 0), .inl (.int, 11, .inl fun _ => 0), .inl (.int, 11, .inl fun _ => 0), .inl (.int, 11, .inl fun _ => 0), .inl (.int, 11, .inl fun _ => 0), .inl (.int, 11, .inl fun _ => 0), .inl (.int, 11, .inl fun _ => 0), .inl (.int, 20480, .inl fun _ => 0), .inl (.int, 10, .inl fun _ => 0), .inl (.int, 4, .inl fun _ => 0), .inl (.int, 2048, .inl fun _ => 0), .inl (.int, 4, .inl fun _ => 0), .inl (.int, 4, .inl fun _ => 0)] ha rfl rfl (n' := n + 20) rfl (c' := 20) rfl (s' := 109261) rfl ⟨Nat.le_of_ble_eq_true rfl, Nat.le_of_ble_eq_true rfl⟩ (pc' := 171) rfl ?_
  refine jrun_ok jC X k_MB_init_171 171 _ _ _ o_MB_init_171 ?_
  simp only [k_MB_init_171, jrun, jstep, jldi, jldl, jlda, j1, j2, jl1, jl2, jli, ja1, jbr, jald, jast, jlald, jlast, jalen, jget, jput, jfit, jdup, jdupx, jdupx2, jdup2, jcat, jset1, jset2, jkill, List.getElem?_cons_zero, List.getElem?_cons_succ, List.set_cons_zero, List.set_cons_succ, List.length_cons, List.length_nil, Nat.reduceAdd, Nat.reduceLT, Int32.reduceToNatClampNeg, true_and, and_true, and_self, reduceCtorEq, not_false_eq_true, false_and, and_false, or_false, false_or, true_or, or_true, jmk_a, jmk_put, hak, hak0]
  exact jk_vret X d_MB_init_174 hr (Nat.le_refl _) (Nat.le_refl _) ⟨rfl, rfl, rfl⟩
end
section
theorem mt_stands_b (men : Nat → Int32) (q x : Int32) : mt_stands men q x = 0 ∨ mt_stands men q x = 1 := by
  unfold mt_stands
  repeat' split
  all_goals simp
def l5 : List Int32 := [-2, -1, 0, 1, 2]
theorem l5_lt : ∀ f ∈ l5, ¬ (3 : Int32) ≤ f := by decide
theorem l5_dir : ∀ f ∈ l5, ∀ r ∈ l5, f * f + r * r = 1 ∨ f * f + r * r = 2 → (f, r) ∈ mt_dirs := by decide
set_option maxRecDepth 100000 in
set_option maxHeartbeats 4000000 in
/-- whether a square is attacked: some truth value -/
theorem c_MT_isAttacked (l : Launch) (E : jE) (σ : Nat → jcell) (n : Nat) (t m : Nat) (fs : List jv) (men : Nat → Int32) (ht : t < n) (h0 : σ t = .inr (12, fs)) (hf : fs[24]? = some (.inr (.inr (some (.inl m))))) (hm : m < n) (h1 : σ m = .inl (.int, 64, .inl men)) (k : Nat) (hk : k < 64) (w : Int32) : jMet l E jcl jtb lw_tbl y_MT_isAttacked { frames := 2, cells := 0, slots := 0, locals := 90 } [.inr (.inr (some (.inl (t)))), .inl (nI k), .inl w] σ n (fun r σ' n' => poB σ n r σ' n') := by
  refine jMet_of (hY := rfl) false (fun h => by cases h) (by decide) (Nat.le_of_ble_eq_true rfl) [some (.inr (.inr (some (.inl (t))))), some (.inl (nI k)), some (.inl w), none, none, none, none, none, none, none] rfl ?_
  intro M hl hR X hr
  have C229 : ∀ (v3 : Int32) (v4 : Int32) (v5 : Int32) (v6 : Int32) (o7 : Option jv) (o8 : Option jv) (o9 : Option jv), (v5 = 0 ∨ v5 = 1) → jJ E jcl 10 M (jQ E jcl M (fun r σ' n' => poB σ n r σ' n') 0 0) n 0 0 229 [some (.inr (.inr (some (.inl (t))))), some (.inl (nI k)), some (.inl w), some (.inl v3), some (.inl v4), some (.inl v5), some (.inl v6), o7, o8, o9] [] σ := by
    intro v3 v4 v5 v6 o7 o8 o9 c0
    refine jrun_ok jC X k_MT_isAttacked_229 229 _ _ _ o_MT_isAttacked_229 ?_
    simp only [k_MT_isAttacked_229, jrun, jstep, jldi, jldl, jlda, j1, j2, jl1, jl2, jli, ja1, jbr, jald, jast, jlald, jlast, jalen, jget, jput, jfit, jdup, jdupx, jdupx2, jdup2, jcat, jset1, jset2, jkill, List.getElem?_cons_zero, List.getElem?_cons_succ, List.set_cons_zero, List.set_cons_succ, List.length_cons, List.length_nil, Nat.reduceAdd, Nat.reduceLT, Int32.reduceToNatClampNeg, true_and, and_true, and_self, reduceCtorEq, not_false_eq_true, false_and, and_false, or_false, false_or, true_or, or_true, h0, hf, h1, ht, hm]
    refine ?_
    exact jk_iret X d_MT_isAttacked_231 hr (bo_n (by assumption)) (Nat.le_refl _) (Nat.le_refl _) ⟨_, (by assumption), rfl, rfl, rfl⟩
  have C61e : ∀ (v3 v4 v5 : Int32) (o7 o8 o9 : Option jv), (v5 = 0 ∨ v5 = 1) → jJ E jcl 10 M (jQ E jcl M (fun r σ' n' => poB σ n r σ' n') 0 0) n 0 0 61 [some (.inr (.inr (some (.inl (t))))), some (.inl (nI k)), some (.inl w), some (.inl v3), some (.inl v4), some (.inl v5), some (.inl 3), o7, o8, o9] [] σ := by
    intro v3 v4 v5 o7 o8 o9 c0
    refine jrun_ok jC X k_MT_isAttacked_61 61 _ _ _ o_MT_isAttacked_61 ?_
    simp only [k_MT_isAttacked_61, jrun, jstep, jldi, jldl, jlda, j1, j2, jl1, jl2, jli, ja1, jbr, jald, jast, jlald, jlast, jalen, jget, jput, jfit, jdup, jdupx, jdupx2, jdup2, jcat, jset1, jset2, jkill, List.getElem?_cons_zero, List.getElem?_cons_succ, List.set_cons_zero, List.set_cons_succ, List.length_cons, List.length_nil, Nat.reduceAdd, Nat.reduceLT, Int32.reduceToNatClampNeg, true_and, and_true, and_self, reduceCtorEq, not_false_eq_true, false_and, and_false, or_false, false_or, true_or, or_true]
    exact ⟨fun _ => C229 _ _ _ _ _ _ _ c0, fun h => absurd (by decide) h⟩
  have S61 : ∀ (own bk f : Int32), f ∈ l5 → (∀ (v5 : Int32) (o7 o8 o9 : Option jv), (v5 = 0 ∨ v5 = 1) → jJ E jcl 10 M (jQ E jcl M (fun r σ' n' => poB σ n r σ' n') 0 0) n 0 0 61 [some (.inr (.inr (some (.inl (t))))), some (.inl (nI k)), some (.inl w), some (.inl own), some (.inl bk), some (.inl v5), some (.inl (f + 1)), o7, o8, o9] [] σ) → ∀ (v5 : Int32) (o7 o8 o9 : Option jv), (v5 = 0 ∨ v5 = 1) → jJ E jcl 10 M (jQ E jcl M (fun r σ' n' => poB σ n r σ' n') 0 0) n 0 0 61 [some (.inr (.inr (some (.inl (t))))), some (.inl (nI k)), some (.inl w), some (.inl own), some (.inl bk), some (.inl v5), some (.inl f), o7, o8, o9] [] σ := by
    intro own bk f hfl K61
    have C223 : ∀ (v5 : Int32) (v7 : Int32) (o8 : Option jv) (o9 : Option jv), (v5 = 0 ∨ v5 = 1) → jJ E jcl 10 M (jQ E jcl M (fun r σ' n' => poB σ n r σ' n') 0 0) n 0 0 223 [some (.inr (.inr (some (.inl (t))))), some (.inl (nI k)), some (.inl w), some (.inl own), some (.inl bk), some (.inl v5), some (.inl f), some (.inl v7), o8, o9] [] σ := by
      intro v5 v7 o8 o9 c0
      refine jrun_ok jC X k_MT_isAttacked_223 223 _ _ _ o_MT_isAttacked_223 ?_
      simp only [k_MT_isAttacked_223, jrun, jstep, jldi, jldl, jlda, j1, j2, jl1, jl2, jli, ja1, jbr, jald, jast, jlald, jlast, jalen, jget, jput, jfit, jdup, jdupx, jdupx2, jdup2, jcat, jset1, jset2, jkill, List.getElem?_cons_zero, List.getElem?_cons_succ, List.set_cons_zero, List.set_cons_succ, List.length_cons, List.length_nil, Nat.reduceAdd, Nat.reduceLT, Int32.reduceToNatClampNeg, true_and, and_true, and_self, reduceCtorEq, not_false_eq_true, false_and, and_false, or_false, false_or, true_or, or_true, h0, hf, h1, ht, hm]
      exact K61 _ _ _ _ (by assumption)
    have C71e : ∀ (v5 : Int32) (o8 o9 : Option jv), (v5 = 0 ∨ v5 = 1) → jJ E jcl 10 M (jQ E jcl M (fun r σ' n' => poB σ n r σ' n') 0 0) n 0 0 71 [some (.inr (.inr (some (.inl (t))))), some (.inl (nI k)), some (.inl w), some (.inl own), some (.inl bk), some (.inl v5), some (.inl f), some (.inl 3), o8, o9] [] σ := by
      intro v5 o8 o9 c0
      refine jrun_ok jC X k_MT_isAttacked_71 71 _ _ _ o_MT_isAttacked_71 ?_
      simp only [k_MT_isAttacked_71, jrun, jstep, jldi, jldl, jlda, j1, j2, jl1, jl2, jli, ja1, jbr, jald, jast, jlald, jlast, jalen, jget, jput, jfit, jdup, jdupx, jdupx2, jdup2, jcat, jset1, jset2, jkill, List.getElem?_cons_zero, List.getElem?_cons_succ, List.set_cons_zero, List.set_cons_succ, List.length_cons, List.length_nil, Nat.reduceAdd, Nat.reduceLT, Int32.reduceToNatClampNeg, true_and, and_true, and_self, reduceCtorEq, not_false_eq_true, false_and, and_false, or_false, false_or, true_or, or_true]
      exact ⟨fun _ => C223 _ _ _ _ c0, fun h => absurd (by decide) h⟩
    have S71 : ∀ r : Int32, r ∈ l5 → (∀ (v5 : Int32) (o8 o9 : Option jv), (v5 = 0 ∨ v5 = 1) → jJ E jcl 10 M (jQ E jcl M (fun r σ' n' => poB σ n r σ' n') 0 0) n 0 0 71 [some (.inr (.inr (some (.inl (t))))), some (.inl (nI k)), some (.inl w), some (.inl own), some (.inl bk), some (.inl v5), some (.inl f), some (.inl (r + 1)), o8, o9] [] σ) → ∀ (v5 : Int32) (o8 o9 : Option jv), (v5 = 0 ∨ v5 = 1) → jJ E jcl 10 M (jQ E jcl M (fun r σ' n' => poB σ n r σ' n') 0 0) n 0 0 71 [some (.inr (.inr (some (.inl (t))))), some (.inl (nI k)), some (.inl w), some (.inl own), some (.inl bk), some (.inl v5), some (.inl f), some (.inl r), o8, o9] [] σ := by
      intro r hrl K71
      have C217 : ∀ (v5 : Int32) (o9 : Option jv), (v5 = 0 ∨ v5 = 1) → jJ E jcl 10 M (jQ E jcl M (fun r σ' n' => poB σ n r σ' n') 0 0) n 0 0 217 [some (.inr (.inr (some (.inl (t))))), some (.inl (nI k)), some (.inl w), some (.inl own), some (.inl bk), some (.inl v5), some (.inl f), some (.inl r), some (.inl (f * f + r * r)), o9] [] σ := by
        intro v5 o9 c0
        refine jrun_ok jC X k_MT_isAttacked_217 217 _ _ _ o_MT_isAttacked_217 ?_
        simp only [k_MT_isAttacked_217, jrun, jstep, jldi, jldl, jlda, j1, j2, jl1, jl2, jli, ja1, jbr, jald, jast, jlald, jlast, jalen, jget, jput, jfit, jdup, jdupx, jdupx2, jdup2, jcat, jset1, jset2, jkill, List.getElem?_cons_zero, List.getElem?_cons_succ, List.set_cons_zero, List.set_cons_succ, List.length_cons, List.length_nil, Nat.reduceAdd, Nat.reduceLT, Int32.reduceToNatClampNeg, true_and, and_true, and_self, reduceCtorEq, not_false_eq_true, false_and, and_false, or_false, false_or, true_or, or_true, h0, hf, h1, ht, hm]
        exact K71 _ _ _ (by first | assumption | omega | (simp_all; done) | decide)
      have C215 : ∀ (v5 : Int32) (v9 : Int32) (s0 : Int32), (v5 = 0 ∨ v5 = 1) → (s0 = 0 ∨ s0 = 1) → jJ E jcl 10 M (jQ E jcl M (fun r σ' n' => poB σ n r σ' n') 0 0) n 0 0 215 [some (.inr (.inr (some (.inl (t))))), some (.inl (nI k)), some (.inl w), some (.inl own), some (.inl bk), some (.inl v5), some (.inl f), some (.inl r), some (.inl (f * f + r * r)), some (.inl v9)] [.inl s0] σ := by
        intro v5 v9 s0 c0 c1
        refine jrun_ok jC X k_MT_isAttacked_215 215 _ _ _ o_MT_isAttacked_215 ?_
        simp only [k_MT_isAttacked_215, jrun, jstep, jldi, jldl, jlda, j1, j2, jl1, jl2, jli, ja1, jbr, jald, jast, jlald, jlast, jalen, jget, jput, jfit, jdup, jdupx, jdupx2, jdup2, jcat, jset1, jset2, jkill, List.getElem?_cons_zero, List.getElem?_cons_succ, List.set_cons_zero, List.set_cons_succ, List.length_cons, List.length_nil, Nat.reduceAdd, Nat.reduceLT, Int32.reduceToNatClampNeg, true_and, and_true, and_self, reduceCtorEq, not_false_eq_true, false_and, and_false, or_false, false_or, true_or, or_true, h0, hf, h1, ht, hm]
        exact C217 _ _ (by first | assumption | omega | (simp_all; done) | decide)
      have C214 : ∀ (v5 : Int32) (v9 : Int32), (v5 = 0 ∨ v5 = 1) → jJ E jcl 10 M (jQ E jcl M (fun r σ' n' => poB σ n r σ' n') 0 0) n 0 0 214 [some (.inr (.inr (some (.inl (t))))), some (.inl (nI k)), some (.inl w), some (.inl own), some (.inl bk), some (.inl v5), some (.inl f), some (.inl r), some (.inl (f * f + r * r)), some (.inl v9)] [] σ := by
        intro v5 v9 c0
        refine jrun_ok jC X k_MT_isAttacked_214 214 _ _ _ o_MT_isAttacked_214 ?_
        simp only [k_MT_isAttacked_214, jrun, jstep, jldi, jldl, jlda, j1, j2, jl1, jl2, jli, ja1, jbr, jald, jast, jlald, jlast, jalen, jget, jput, jfit, jdup, jdupx, jdupx2, jdup2, jcat, jset1, jset2, jkill, List.getElem?_cons_zero, List.getElem?_cons_succ, List.set_cons_zero, List.set_cons_succ, List.length_cons, List.length_nil, Nat.reduceAdd, Nat.reduceLT, Int32.reduceToNatClampNeg, true_and, and_true, and_self, reduceCtorEq, not_false_eq_true, false_and, and_false, or_false, false_or, true_or, or_true, h0, hf, h1, ht, hm]
        exact C215 _ _ _ (by assumption) (by first | assumption | exact Or.inl rfl | exact Or.inr rfl)
      have C210 : ∀ (v5 : Int32) (v9 : Int32), (v5 = 0 ∨ v5 = 1) → jJ E jcl 10 M (jQ E jcl M (fun r σ' n' => poB σ n r σ' n') 0 0) n 0 0 210 [some (.inr (.inr (some (.inl (t))))), some (.inl (nI k)), some (.inl w), some (.inl own), some (.inl bk), some (.inl v5), some (.inl f), some (.inl r), some (.inl (f * f + r * r)), some (.inl v9)] [] σ := by
        intro v5 v9 c0
        refine jrun_ok jC X k_MT_isAttacked_210 210 _ _ _ o_MT_isAttacked_210 ?_
        simp only [k_MT_isAttacked_210, jrun, jstep, jldi, jldl, jlda, j1, j2, jl1, jl2, jli, ja1, jbr, jald, jast, jlald, jlast, jalen, jget, jput, jfit, jdup, jdupx, jdupx2, jdup2, jcat, jset1, jset2, jkill, List.getElem?_cons_zero, List.getElem?_cons_succ, List.set_cons_zero, List.set_cons_succ, List.length_cons, List.length_nil, Nat.reduceAdd, Nat.reduceLT, Int32.reduceToNatClampNeg, true_and, and_true, and_self, reduceCtorEq, not_false_eq_true, false_and, and_false, or_false, false_or, true_or, or_true, h0, hf, h1, ht, hm]
        exact C215 _ _ _ (by assumption) (by first | assumption | exact Or.inl rfl | exact Or.inr rfl)
      have C205 : ∀ (v5 : Int32) (v9 : Int32) (s0 : Int32) (s1 : Int32), (v5 = 0 ∨ v5 = 1) → jJ E jcl 10 M (jQ E jcl M (fun r σ' n' => poB σ n r σ' n') 0 0) n 0 0 205 [some (.inr (.inr (some (.inl (t))))), some (.inl (nI k)), some (.inl w), some (.inl own), some (.inl bk), some (.inl v5), some (.inl f), some (.inl r), some (.inl (f * f + r * r)), some (.inl v9)] [.inl s1, .inl s0] σ := by
        intro v5 v9 s0 s1 c0
        refine jrun_ok jC X k_MT_isAttacked_205 205 _ _ _ o_MT_isAttacked_205 ?_
        simp only [k_MT_isAttacked_205, jrun, jstep, jldi, jldl, jlda, j1, j2, jl1, jl2, jli, ja1, jbr, jald, jast, jlald, jlast, jalen, jget, jput, jfit, jdup, jdupx, jdupx2, jdup2, jcat, jset1, jset2, jkill, List.getElem?_cons_zero, List.getElem?_cons_succ, List.set_cons_zero, List.set_cons_succ, List.length_cons, List.length_nil, Nat.reduceAdd, Nat.reduceLT, Int32.reduceToNatClampNeg, true_and, and_true, and_self, reduceCtorEq, not_false_eq_true, false_and, and_false, or_false, false_or, true_or, or_true, h0, hf, h1, ht, hm]
        exact ⟨fun h207 => C214 _ _ (by first | assumption | omega | (simp_all; done) | decide), fun h207 => C210 _ _ (by first | assumption | omega | (simp_all; done) | decide)⟩
      have C204 : ∀ (v5 : Int32) (v9 : Int32) (s0 : Int32), (v5 = 0 ∨ v5 = 1) → jJ E jcl 10 M (jQ E jcl M (fun r σ' n' => poB σ n r σ' n') 0 0) n 0 0 204 [some (.inr (.inr (some (.inl (t))))), some (.inl (nI k)), some (.inl w), some (.inl own), some (.inl bk), some (.inl v5), some (.inl f), some (.inl r), some (.inl (f * f + r * r)), some (.inl v9)] [.inl s0] σ := by
        intro v5 v9 s0 c0
        refine jrun_ok jC X k_MT_isAttacked_204 204 _ _ _ o_MT_isAttacked_204 ?_
        simp only [k_MT_isAttacked_204, jrun, jstep, jldi, jldl, jlda, j1, j2, jl1, jl2, jli, ja1, jbr, jald, jast, jlald, jlast, jalen, jget, jput, jfit, jdup, jdupx, jdupx2, jdup2, jcat, jset1, jset2, jkill, List.getElem?_cons_zero, List.getElem?_cons_succ, List.set_cons_zero, List.set_cons_succ, List.length_cons, List.length_nil, Nat.reduceAdd, Nat.reduceLT, Int32.reduceToNatClampNeg, true_and, and_true, and_self, reduceCtorEq, not_false_eq_true, false_and, and_false, or_false, false_or, true_or, or_true, h0, hf, h1, ht, hm]
        exact C205 _ _ _ _ (by first | assumption | omega | (simp_all; done) | decide)
      have C177 : ∀ (v5 : Int32) (o9 : Option jv) (s0 : Int32), (v5 = 0 ∨ v5 = 1) → jJ E jcl 10 M (jQ E jcl M (fun r σ' n' => poB σ n r σ' n') 0 0) n 0 0 177 [some (.inr (.inr (some (.inl (t))))), some (.inl (nI k)), some (.inl w), some (.inl own), some (.inl bk), some (.inl v5), some (.inl f), some (.inl r), some (.inl (f * f + r * r)), o9] [.inl s0] σ := by
        intro v5 o9 s0 c0
        refine jrun_ok jC X k_MT_isAttacked_177 177 _ _ _ o_MT_isAttacked_177 ?_
        simp only [k_MT_isAttacked_177, jrun, jstep, jldi, jldl, jlda, j1, j2, jl1, jl2, jli, ja1, jbr, jald, jast, jlald, jlast, jalen, jget, jput, jfit, jdup, jdupx, jdupx2, jdup2, jcat, jset1, jset2, jkill, List.getElem?_cons_zero, List.getElem?_cons_succ, List.set_cons_zero, List.set_cons_succ, List.length_cons, List.length_nil, Nat.reduceAdd, Nat.reduceLT, Int32.reduceToNatClampNeg, true_and, and_true, and_self, reduceCtorEq, not_false_eq_true, false_and, and_false, or_false, false_or, true_or, or_true, h0, hf, h1, ht, hm]
        exact ⟨fun h181 => C210 _ _ (by first | assumption | omega | (simp_all; done) | decide), fun h181 => ⟨fun h189 => C210 _ _ (by first | assumption | omega | (simp_all; done) | decide), fun h189 => ⟨fun h197 => C204 _ _ _ (by first | assumption | omega | (simp_all; done) | decide), fun h197 => C205 _ _ _ _ (by first | assumption | omega | (simp_all; done) | decide)⟩⟩⟩
      have C168 : ∀ (v5 : Int32) (o9 : Option jv), (v5 = 0 ∨ v5 = 1) → (f * f + r * r = 1 ∨ f * f + r * r = 2) → jJ E jcl 10 M (jQ E jcl M (fun r σ' n' => poB σ n r σ' n') 0 0) n 0 0 168 [some (.inr (.inr (some (.inl (t))))), some (.inl (nI k)), some (.inl w), some (.inl own), some (.inl bk), some (.inl v5), some (.inl f), some (.inl r), some (.inl (f * f + r * r)), o9] [] σ := by
        intro v5 o9 c0 c1
        refine jrun_ok jC X k_MT_isAttacked_168 168 _ _ _ o_MT_isAttacked_168 ?_
        simp only [k_MT_isAttacked_168, jrun, jstep, jldi, jldl, jlda, j1, j2, jl1, jl2, jli, ja1, jbr, jald, jast, jlald, jlast, jalen, jget, jput, jfit, jdup, jdupx, jdupx2, jdup2, jcat, jset1, jset2, jkill, List.getElem?_cons_zero, List.getElem?_cons_succ, List.set_cons_zero, List.set_cons_succ, List.length_cons, List.length_nil, Nat.reduceAdd, Nat.reduceLT, Int32.reduceToNatClampNeg, true_and, and_true, and_self, reduceCtorEq, not_false_eq_true, false_and, and_false, or_false, false_or, true_or, or_true, h0, hf, h1, ht, hm]
        refine ?_
        refine jk_VI X hR d_MT_isAttacked_174 q_MT_isAttacked_174 m_MT_met i_MT_met e_MT_met (ci := 12) rfl rfl ht h0 (c_MT_met M.2.1 E _ _ _ _ _ _ ht h0 hf hm h1 k hk (f, r) (l5_dir f hfl r hrl (by assumption))) rfl rfl ⟨Nat.le_of_ble_eq_true rfl, Nat.le_of_ble_eq_true rfl⟩ ⟨rfl, rfl⟩ ⟨Nat.le_of_ble_eq_true rfl, Nat.le_of_ble_eq_true rfl⟩ (Nat.le_of_ble_eq_true rfl) (pc' := 177) rfl ?_
        intro vm
        exact C177 _ _ _ (by first | assumption | omega | (simp_all; done) | decide)
      have C154 : ∀ (v5 : Int32) (o9 : Option jv) (s0 : Int32), (v5 = 0 ∨ v5 = 1) → (s0 = 0 ∨ s0 = 1) → jJ E jcl 10 M (jQ E jcl M (fun r σ' n' => poB σ n r σ' n') 0 0) n 0 0 154 [some (.inr (.inr (some (.inl (t))))), some (.inl (nI k)), some (.inl w), some (.inl own), some (.inl bk), some (.inl v5), some (.inl f), some (.inl r), some (.inl (f * f + r * r)), o9] [.inl s0] σ := by
        intro v5 o9 s0 c0 c1
        refine jrun_ok jC X k_MT_isAttacked_154 154 _ _ _ o_MT_isAttacked_154 ?_
        simp only [k_MT_isAttacked_154, jrun, jstep, jldi, jldl, jlda, j1, j2, jl1, jl2, jli, ja1, jbr, jald, jast, jlald, jlast, jalen, jget, jput, jfit, jdup, jdupx, jdupx2, jdup2, jcat, jset1, jset2, jkill, List.getElem?_cons_zero, List.getElem?_cons_succ, List.set_cons_zero, List.set_cons_succ, List.length_cons, List.length_nil, Nat.reduceAdd, Nat.reduceLT, Int32.reduceToNatClampNeg, true_and, and_true, and_self, reduceCtorEq, not_false_eq_true, false_and, and_false, or_false, false_or, true_or, or_true, h0, hf, h1, ht, hm]
        exact ⟨fun h159 => C168 _ _ (by assumption) (by first | exact Or.inl (by assumption) | exact Or.inr (by assumption)), fun h159 => ⟨fun h165 => C217 _ _ (by first | assumption | omega | (simp_all; done) | decide), fun h165 => C168 _ _ (by assumption) (by first | exact Or.inl (by assumption) | exact Or.inr (by assumption))⟩⟩
      have C153 : ∀ (v5 : Int32) (o9 : Option jv), (v5 = 0 ∨ v5 = 1) → jJ E jcl 10 M (jQ E jcl M (fun r σ' n' => poB σ n r σ' n') 0 0) n 0 0 153 [some (.inr (.inr (some (.inl (t))))), some (.inl (nI k)), some (.inl w), some (.inl own), some (.inl bk), some (.inl v5), some (.inl f), some (.inl r), some (.inl (f * f + r * r)), o9] [] σ := by
        intro v5 o9 c0
        refine jrun_ok jC X k_MT_isAttacked_153 153 _ _ _ o_MT_isAttacked_153 ?_
        simp only [k_MT_isAttacked_153, jrun, jstep, jldi, jldl, jlda, j1, j2, jl1, jl2, jli, ja1, jbr, jald, jast, jlald, jlast, jalen, jget, jput, jfit, jdup, jdupx, jdupx2, jdup2, jcat, jset1, jset2, jkill, List.getElem?_cons_zero, List.getElem?_cons_succ, List.set_cons_zero, List.set_cons_succ, List.length_cons, List.length_nil, Nat.reduceAdd, Nat.reduceLT, Int32.reduceToNatClampNeg, true_and, and_true, and_self, reduceCtorEq, not_false_eq_true, false_and, and_false, or_false, false_or, true_or, or_true, h0, hf, h1, ht, hm]
        exact C154 _ _ _ (by assumption) (by first | assumption | exact Or.inl rfl | exact Or.inr rfl)
      have C149 : ∀ (v5 : Int32) (o9 : Option jv), (v5 = 0 ∨ v5 = 1) → jJ E jcl 10 M (jQ E jcl M (fun r σ' n' => poB σ n r σ' n') 0 0) n 0 0 149 [some (.inr (.inr (some (.inl (t))))), some (.inl (nI k)), some (.inl w), some (.inl own), some (.inl bk), some (.inl v5), some (.inl f), some (.inl r), some (.inl (f * f + r * r)), o9] [] σ := by
        intro v5 o9 c0
        refine jrun_ok jC X k_MT_isAttacked_149 149 _ _ _ o_MT_isAttacked_149 ?_
        simp only [k_MT_isAttacked_149, jrun, jstep, jldi, jldl, jlda, j1, j2, jl1, jl2, jli, ja1, jbr, jald, jast, jlald, jlast, jalen, jget, jput, jfit, jdup, jdupx, jdupx2, jdup2, jcat, jset1, jset2, jkill, List.getElem?_cons_zero, List.getElem?_cons_succ, List.set_cons_zero, List.set_cons_succ, List.length_cons, List.length_nil, Nat.reduceAdd, Nat.reduceLT, Int32.reduceToNatClampNeg, true_and, and_true, and_self, reduceCtorEq, not_false_eq_true, false_and, and_false, or_false, false_or, true_or, or_true, h0, hf, h1, ht, hm]
        exact C154 _ _ _ (by assumption) (by first | assumption | exact Or.inl rfl | exact Or.inr rfl)
      have C146 : ∀ (v5 : Int32) (o9 : Option jv) (s0 : Int32), (v5 = 0 ∨ v5 = 1) → jJ E jcl 10 M (jQ E jcl M (fun r σ' n' => poB σ n r σ' n') 0 0) n 0 0 146 [some (.inr (.inr (some (.inl (t))))), some (.inl (nI k)), some (.inl w), some (.inl own), some (.inl bk), some (.inl v5), some (.inl f), some (.inl r), some (.inl (f * f + r * r)), o9] [.inl s0] σ := by
        intro v5 o9 s0 c0
        refine jrun_ok jC X k_MT_isAttacked_146 146 _ _ _ o_MT_isAttacked_146 ?_
        simp only [k_MT_isAttacked_146, jrun, jstep, jldi, jldl, jlda, j1, j2, jl1, jl2, jli, ja1, jbr, jald, jast, jlald, jlast, jalen, jget, jput, jfit, jdup, jdupx, jdupx2, jdup2, jcat, jset1, jset2, jkill, List.getElem?_cons_zero, List.getElem?_cons_succ, List.set_cons_zero, List.set_cons_succ, List.length_cons, List.length_nil, Nat.reduceAdd, Nat.reduceLT, Int32.reduceToNatClampNeg, true_and, and_true, and_self, reduceCtorEq, not_false_eq_true, false_and, and_false, or_false, false_or, true_or, or_true, h0, hf, h1, ht, hm]
        exact ⟨fun h146 => C153 _ _ (by first | assumption | omega | (simp_all; done) | decide), fun h146 => C149 _ _ (by first | assumption | omega | (simp_all; done) | decide)⟩
      have C139 : ∀ (v5 : Int32) (o9 : Option jv) (s1 : Int32), (v5 = 0 ∨ v5 = 1) → (s1 < 0 ∨ vp_in s1 64) → jJ E jcl 10 M (jQ E jcl M (fun r σ' n' => poB σ n r σ' n') 0 0) n 0 0 139 [some (.inr (.inr (some (.inl (t))))), some (.inl (nI k)), some (.inl w), some (.inl own), some (.inl bk), some (.inl v5), some (.inl f), some (.inl r), some (.inl (f * f + r * r)), o9] [.inl s1, .inr (.inr (some (.inl (t))))] σ := by
        intro v5 o9 s1 c0 c1
        refine jrun_ok jC X k_MT_isAttacked_139 139 _ _ _ o_MT_isAttacked_139 ?_
        simp only [k_MT_isAttacked_139, jrun, jstep, jldi, jldl, jlda, j1, j2, jl1, jl2, jli, ja1, jbr, jald, jast, jlald, jlast, jalen, jget, jput, jfit, jdup, jdupx, jdupx2, jdup2, jcat, jset1, jset2, jkill, List.getElem?_cons_zero, List.getElem?_cons_succ, List.set_cons_zero, List.set_cons_succ, List.length_cons, List.length_nil, Nat.reduceAdd, Nat.reduceLT, Int32.reduceToNatClampNeg, true_and, and_true, and_self, reduceCtorEq, not_false_eq_true, false_and, and_false, or_false, false_or, true_or, or_true, h0, hf, h1, ht, hm]
        refine ?_
        refine jk_Vi X hR d_MT_isAttacked_143 q_MT_isAttacked_143 m_MT_stands i_MT_stands e_MT_stands (ci := 12) rfl rfl ht h0 (c_MT_stands M.2.1 E _ _ _ _ _ _ ht h0 hf hm h1 _ _ (by assumption)) rfl rfl ⟨Nat.le_of_ble_eq_true rfl, Nat.le_of_ble_eq_true rfl⟩ ⟨rfl, rfl⟩ ⟨Nat.le_of_ble_eq_true rfl, Nat.le_of_ble_eq_true rfl⟩ (Nat.le_of_ble_eq_true rfl) (pc' := 146) rfl ?_
        exact C146 _ _ _ (by first | assumption | omega | (simp_all; done) | decide)
      have C119 : ∀ (v5 : Int32) (o9 : Option jv), (v5 = 0 ∨ v5 = 1) → jJ E jcl 10 M (jQ E jcl M (fun r σ' n' => poB σ n r σ' n') 0 0) n 0 0 119 [some (.inr (.inr (some (.inl (t))))), some (.inl (nI k)), some (.inl w), some (.inl own), some (.inl bk), some (.inl v5), some (.inl f), some (.inl r), some (.inl (f * f + r * r)), o9] [] σ := by
        intro v5 o9 c0
        refine jrun_ok jC X k_MT_isAttacked_119 119 _ _ _ o_MT_isAttacked_119 ?_
        simp only [k_MT_isAttacked_119, jrun, jstep, jldi, jldl, jlda, j1, j2, jl1, jl2, jli, ja1, jbr, jald, jast, jlald, jlast, jalen, jget, jput, jfit, jdup, jdupx, jdupx2, jdup2, jcat, jset1, jset2, jkill, List.getElem?_cons_zero, List.getElem?_cons_succ, List.set_cons_zero, List.set_cons_succ, List.length_cons, List.length_nil, Nat.reduceAdd, Nat.reduceLT, Int32.reduceToNatClampNeg, true_and, and_true, and_self, reduceCtorEq, not_false_eq_true, false_and, and_false, or_false, false_or, true_or, or_true, h0, hf, h1, ht, hm]
        refine ⟨fun h121 => C153 _ _ (by first | assumption | omega | (simp_all; done) | decide), fun h121 => ⟨fun h127 => C153 _ _ (by first | assumption | omega | (simp_all; done) | decide), fun h127 => ?_⟩⟩
        refine jk_Si X hR d_MT_isAttacked_136 q_MT_isAttacked_136 m_MT_step s_MT_step (c_MT_step M.2.1 E _ _ _ _ _) rfl rfl ⟨Nat.le_of_ble_eq_true rfl, Nat.le_of_ble_eq_true rfl⟩ ⟨rfl, rfl⟩ ⟨Nat.le_of_ble_eq_true rfl, Nat.le_of_ble_eq_true rfl⟩ (Nat.le_of_ble_eq_true rfl) (pc' := 139) rfl ?_
        exact C139 _ _ _ (by assumption) (mt_step_in _ _ _)
      have C116 : ∀ (v5 : Int32) (o9 : Option jv) (s0 : Int32), (v5 = 0 ∨ v5 = 1) → jJ E jcl 10 M (jQ E jcl M (fun r σ' n' => poB σ n r σ' n') 0 0) n 0 0 116 [some (.inr (.inr (some (.inl (t))))), some (.inl (nI k)), some (.inl w), some (.inl own), some (.inl bk), some (.inl v5), some (.inl f), some (.inl r), some (.inl (f * f + r * r)), o9] [.inl s0] σ := by
        intro v5 o9 s0 c0
        refine jrun_ok jC X k_MT_isAttacked_116 116 _ _ _ o_MT_isAttacked_116 ?_
        simp only [k_MT_isAttacked_116, jrun, jstep, jldi, jldl, jlda, j1, j2, jl1, jl2, jli, ja1, jbr, jald, jast, jlald, jlast, jalen, jget, jput, jfit, jdup, jdupx, jdupx2, jdup2, jcat, jset1, jset2, jkill, List.getElem?_cons_zero, List.getElem?_cons_succ, List.set_cons_zero, List.set_cons_succ, List.length_cons, List.length_nil, Nat.reduceAdd, Nat.reduceLT, Int32.reduceToNatClampNeg, true_and, and_true, and_self, reduceCtorEq, not_false_eq_true, false_and, and_false, or_false, false_or, true_or, or_true, h0, hf, h1, ht, hm]
        exact ⟨fun h116 => C149 _ _ (by first | assumption | omega | (simp_all; done) | decide), fun h116 => C119 _ _ (by first | assumption | omega | (simp_all; done) | decide)⟩
      have C110 : ∀ (v5 : Int32) (o9 : Option jv) (s1 : Int32), (v5 = 0 ∨ v5 = 1) → (s1 < 0 ∨ vp_in s1 64) → jJ E jcl 10 M (jQ E jcl M (fun r σ' n' => poB σ n r σ' n') 0 0) n 0 0 110 [some (.inr (.inr (some (.inl (t))))), some (.inl (nI k)), some (.inl w), some (.inl own), some (.inl bk), some (.inl v5), some (.inl f), some (.inl r), some (.inl (f * f + r * r)), o9] [.inl s1, .inr (.inr (some (.inl (t))))] σ := by
        intro v5 o9 s1 c0 c1
        refine jrun_ok jC X k_MT_isAttacked_110 110 _ _ _ o_MT_isAttacked_110 ?_
        simp only [k_MT_isAttacked_110, jrun, jstep, jldi, jldl, jlda, j1, j2, jl1, jl2, jli, ja1, jbr, jald, jast, jlald, jlast, jalen, jget, jput, jfit, jdup, jdupx, jdupx2, jdup2, jcat, jset1, jset2, jkill, List.getElem?_cons_zero, List.getElem?_cons_succ, List.set_cons_zero, List.set_cons_succ, List.length_cons, List.length_nil, Nat.reduceAdd, Nat.reduceLT, Int32.reduceToNatClampNeg, true_and, and_true, and_self, reduceCtorEq, not_false_eq_true, false_and, and_false, or_false, false_or, true_or, or_true, h0, hf, h1, ht, hm]
        refine ?_
        refine jk_Vi X hR d_MT_isAttacked_113 q_MT_isAttacked_113 m_MT_stands i_MT_stands e_MT_stands (ci := 12) rfl rfl ht h0 (c_MT_stands M.2.1 E _ _ _ _ _ _ ht h0 hf hm h1 _ _ (by assumption)) rfl rfl ⟨Nat.le_of_ble_eq_true rfl, Nat.le_of_ble_eq_true rfl⟩ ⟨rfl, rfl⟩ ⟨Nat.le_of_ble_eq_true rfl, Nat.le_of_ble_eq_true rfl⟩ (Nat.le_of_ble_eq_true rfl) (pc' := 116) rfl ?_
        exact C116 _ _ _ (by first | assumption | omega | (simp_all; done) | decide)
      intro v5 o8 o9 c0
      refine jrun_ok jC X k_MT_isAttacked_71 71 _ _ _ o_MT_isAttacked_71 ?_
      simp only [k_MT_isAttacked_71, jrun, jstep, jldi, jldl, jlda, j1, j2, jl1, jl2, jli, ja1, jbr, jald, jast, jlald, jlast, jalen, jget, jput, jfit, jdup, jdupx, jdupx2, jdup2, jcat, jset1, jset2, jkill, List.getElem?_cons_zero, List.getElem?_cons_succ, List.set_cons_zero, List.set_cons_succ, List.length_cons, List.length_nil, Nat.reduceAdd, Nat.reduceLT, Int32.reduceToNatClampNeg, true_and, and_true, and_self, reduceCtorEq, not_false_eq_true, false_and, and_false, or_false, false_or, true_or, or_true, h0, hf, h1, ht, hm]
      refine ⟨fun h74 => C223 _ _ _ _ (by first | assumption | omega | (simp_all; done) | decide), fun h74 => ⟨fun h92 => C149 _ _ (by first | assumption | omega | (simp_all; done) | decide), fun h92 => ⟨fun h98 => C119 _ _ (by first | assumption | omega | (simp_all; done) | decide), fun h98 => ?_⟩⟩⟩
      refine jk_Si X hR d_MT_isAttacked_107 q_MT_isAttacked_107 m_MT_step s_MT_step (c_MT_step M.2.1 E _ _ _ _ _) rfl rfl ⟨Nat.le_of_ble_eq_true rfl, Nat.le_of_ble_eq_true rfl⟩ ⟨rfl, rfl⟩ ⟨Nat.le_of_ble_eq_true rfl, Nat.le_of_ble_eq_true rfl⟩ (Nat.le_of_ble_eq_true rfl) (pc' := 110) rfl ?_
      exact C110 _ _ _ (by assumption) (mt_step_in _ _ _)
    have A71 : ∀ (v5 : Int32) (o8 o9 : Option jv), (v5 = 0 ∨ v5 = 1) → jJ E jcl 10 M (jQ E jcl M (fun r σ' n' => poB σ n r σ' n') 0 0) n 0 0 71 [some (.inr (.inr (some (.inl (t))))), some (.inl (nI k)), some (.inl w), some (.inl own), some (.inl bk), some (.inl v5), some (.inl f), some (.inl (-2)), o8, o9] [] σ := S71 (-2) (by decide) (S71 (-1) (by decide) (S71 0 (by decide) (S71 1 (by decide) (S71 2 (by decide) C71e))))
    intro v5 o7 o8 o9 c0
    refine jrun_ok jC X k_MT_isAttacked_61 61 _ _ _ o_MT_isAttacked_61 ?_
    simp only [k_MT_isAttacked_61, jrun, jstep, jldi, jldl, jlda, j1, j2, jl1, jl2, jli, ja1, jbr, jald, jast, jlald, jlast, jalen, jget, jput, jfit, jdup, jdupx, jdupx2, jdup2, jcat, jset1, jset2, jkill, List.getElem?_cons_zero, List.getElem?_cons_succ, List.set_cons_zero, List.set_cons_succ, List.length_cons, List.length_nil, Nat.reduceAdd, Nat.reduceLT, Int32.reduceToNatClampNeg, true_and, and_true, and_self, reduceCtorEq, not_false_eq_true, false_and, and_false, or_false, false_or, true_or, or_true]
    exact ⟨fun h => absurd h (l5_lt f hfl), fun _ => A71 _ _ _ c0⟩
  have C61 : ∀ (v3 v4 v5 : Int32) (o7 o8 o9 : Option jv), (v5 = 0 ∨ v5 = 1) → jJ E jcl 10 M (jQ E jcl M (fun r σ' n' => poB σ n r σ' n') 0 0) n 0 0 61 [some (.inr (.inr (some (.inl (t))))), some (.inl (nI k)), some (.inl w), some (.inl v3), some (.inl v4), some (.inl v5), some (.inl (-2)), o7, o8, o9] [] σ := fun v3 v4 => S61 v3 v4 (-2) (by decide) (S61 v3 v4 (-1) (by decide) (S61 v3 v4 0 (by decide) (S61 v3 v4 1 (by decide) (S61 v3 v4 2 (by decide) (C61e v3 v4)))))
  have C55 : ∀ (v3 : Int32) (v4 : Int32) (o5 : Option jv) (o6 : Option jv) (o7 : Option jv) (o8 : Option jv) (o9 : Option jv) (s0 : Int32), (s0 = 0 ∨ s0 = 1) → jJ E jcl 10 M (jQ E jcl M (fun r σ' n' => poB σ n r σ' n') 0 0) n 0 0 55 [some (.inr (.inr (some (.inl (t))))), some (.inl (nI k)), some (.inl w), some (.inl v3), some (.inl v4), o5, o6, o7, o8, o9] [.inl s0] σ := by
    intro v3 v4 o5 o6 o7 o8 o9 s0 c0
    refine jrun_ok jC X k_MT_isAttacked_55 55 _ _ _ o_MT_isAttacked_55 ?_
    simp only [k_MT_isAttacked_55, jrun, jstep, jldi, jldl, jlda, j1, j2, jl1, jl2, jli, ja1, jbr, jald, jast, jlald, jlast, jalen, jget, jput, jfit, jdup, jdupx, jdupx2, jdup2, jcat, jset1, jset2, jkill, List.getElem?_cons_zero, List.getElem?_cons_succ, List.set_cons_zero, List.set_cons_succ, List.length_cons, List.length_nil, Nat.reduceAdd, Nat.reduceLT, Int32.reduceToNatClampNeg, true_and, and_true, and_self, reduceCtorEq, not_false_eq_true, false_and, and_false, or_false, false_or, true_or, or_true, h0, hf, h1, ht, hm]
    exact C61 _ _ _ _ _ _ (by assumption)
  have C54 : ∀ (v3 : Int32) (v4 : Int32) (o5 : Option jv) (o6 : Option jv) (o7 : Option jv) (o8 : Option jv) (o9 : Option jv), jJ E jcl 10 M (jQ E jcl M (fun r σ' n' => poB σ n r σ' n') 0 0) n 0 0 54 [some (.inr (.inr (some (.inl (t))))), some (.inl (nI k)), some (.inl w), some (.inl v3), some (.inl v4), o5, o6, o7, o8, o9] [] σ := by
    intro v3 v4 o5 o6 o7 o8 o9
    refine jrun_ok jC X k_MT_isAttacked_54 54 _ _ _ o_MT_isAttacked_54 ?_
    simp only [k_MT_isAttacked_54, jrun, jstep, jldi, jldl, jlda, j1, j2, jl1, jl2, jli, ja1, jbr, jald, jast, jlald, jlast, jalen, jget, jput, jfit, jdup, jdupx, jdupx2, jdup2, jcat, jset1, jset2, jkill, List.getElem?_cons_zero, List.getElem?_cons_succ, List.set_cons_zero, List.set_cons_succ, List.length_cons, List.length_nil, Nat.reduceAdd, Nat.reduceLT, Int32.reduceToNatClampNeg, true_and, and_true, and_self, reduceCtorEq, not_false_eq_true, false_and, and_false, or_false, false_or, true_or, or_true, h0, hf, h1, ht, hm]
    exact C55 _ _ _ _ _ _ _ _ (by first | assumption | exact Or.inl rfl | exact Or.inr rfl)
  have C50 : ∀ (v3 : Int32) (v4 : Int32) (o5 : Option jv) (o6 : Option jv) (o7 : Option jv) (o8 : Option jv) (o9 : Option jv), jJ E jcl 10 M (jQ E jcl M (fun r σ' n' => poB σ n r σ' n') 0 0) n 0 0 50 [some (.inr (.inr (some (.inl (t))))), some (.inl (nI k)), some (.inl w), some (.inl v3), some (.inl v4), o5, o6, o7, o8, o9] [] σ := by
    intro v3 v4 o5 o6 o7 o8 o9
    refine jrun_ok jC X k_MT_isAttacked_50 50 _ _ _ o_MT_isAttacked_50 ?_
    simp only [k_MT_isAttacked_50, jrun, jstep, jldi, jldl, jlda, j1, j2, jl1, jl2, jli, ja1, jbr, jald, jast, jlald, jlast, jalen, jget, jput, jfit, jdup, jdupx, jdupx2, jdup2, jcat, jset1, jset2, jkill, List.getElem?_cons_zero, List.getElem?_cons_succ, List.set_cons_zero, List.set_cons_succ, List.length_cons, List.length_nil, Nat.reduceAdd, Nat.reduceLT, Int32.reduceToNatClampNeg, true_and, and_true, and_self, reduceCtorEq, not_false_eq_true, false_and, and_false, or_false, false_or, true_or, or_true, h0, hf, h1, ht, hm]
    exact C55 _ _ _ _ _ _ _ _ (by first | assumption | exact Or.inl rfl | exact Or.inr rfl)
  have C47 : ∀ (v3 : Int32) (v4 : Int32) (o5 : Option jv) (o6 : Option jv) (o7 : Option jv) (o8 : Option jv) (o9 : Option jv) (s0 : Int32), jJ E jcl 10 M (jQ E jcl M (fun r σ' n' => poB σ n r σ' n') 0 0) n 0 0 47 [some (.inr (.inr (some (.inl (t))))), some (.inl (nI k)), some (.inl w), some (.inl v3), some (.inl v4), o5, o6, o7, o8, o9] [.inl s0] σ := by
    intro v3 v4 o5 o6 o7 o8 o9 s0
    refine jrun_ok jC X k_MT_isAttacked_47 47 _ _ _ o_MT_isAttacked_47 ?_
    simp only [k_MT_isAttacked_47, jrun, jstep, jldi, jldl, jlda, j1, j2, jl1, jl2, jli, ja1, jbr, jald, jast, jlald, jlast, jalen, jget, jput, jfit, jdup, jdupx, jdupx2, jdup2, jcat, jset1, jset2, jkill, List.getElem?_cons_zero, List.getElem?_cons_succ, List.set_cons_zero, List.set_cons_succ, List.length_cons, List.length_nil, Nat.reduceAdd, Nat.reduceLT, Int32.reduceToNatClampNeg, true_and, and_true, and_self, reduceCtorEq, not_false_eq_true, false_and, and_false, or_false, false_or, true_or, or_true, h0, hf, h1, ht, hm]
    exact ⟨fun h47 => C54 _ _ _ _ _ _ _, fun h47 => C50 _ _ _ _ _ _ _⟩
  have C41 : ∀ (v3 : Int32) (v4 : Int32) (o5 : Option jv) (o6 : Option jv) (o7 : Option jv) (o8 : Option jv) (o9 : Option jv) (s1 : Int32), (s1 < 0 ∨ vp_in s1 64) → jJ E jcl 10 M (jQ E jcl M (fun r σ' n' => poB σ n r σ' n') 0 0) n 0 0 41 [some (.inr (.inr (some (.inl (t))))), some (.inl (nI k)), some (.inl w), some (.inl v3), some (.inl v4), o5, o6, o7, o8, o9] [.inl s1, .inr (.inr (some (.inl (t))))] σ := by
    intro v3 v4 o5 o6 o7 o8 o9 s1 c0
    refine jrun_ok jC X k_MT_isAttacked_41 41 _ _ _ o_MT_isAttacked_41 ?_
    simp only [k_MT_isAttacked_41, jrun, jstep, jldi, jldl, jlda, j1, j2, jl1, jl2, jli, ja1, jbr, jald, jast, jlald, jlast, jalen, jget, jput, jfit, jdup, jdupx, jdupx2, jdup2, jcat, jset1, jset2, jkill, List.getElem?_cons_zero, List.getElem?_cons_succ, List.set_cons_zero, List.set_cons_succ, List.length_cons, List.length_nil, Nat.reduceAdd, Nat.reduceLT, Int32.reduceToNatClampNeg, true_and, and_true, and_self, reduceCtorEq, not_false_eq_true, false_and, and_false, or_false, false_or, true_or, or_true, h0, hf, h1, ht, hm]
    refine ?_
    refine jk_Vi X hR d_MT_isAttacked_44 q_MT_isAttacked_44 m_MT_stands i_MT_stands e_MT_stands (ci := 12) rfl rfl ht h0 (c_MT_stands M.2.1 E _ _ _ _ _ _ ht h0 hf hm h1 _ _ (by assumption)) rfl rfl ⟨Nat.le_of_ble_eq_true rfl, Nat.le_of_ble_eq_true rfl⟩ ⟨rfl, rfl⟩ ⟨Nat.le_of_ble_eq_true rfl, Nat.le_of_ble_eq_true rfl⟩ (Nat.le_of_ble_eq_true rfl) (pc' := 47) rfl ?_
    exact C47 _ _ _ _ _ _ _ _
  have C30 : ∀ (v3 : Int32) (v4 : Int32) (o5 : Option jv) (o6 : Option jv) (o7 : Option jv) (o8 : Option jv) (o9 : Option jv) (s0 : Int32), jJ E jcl 10 M (jQ E jcl M (fun r σ' n' => poB σ n r σ' n') 0 0) n 0 0 30 [some (.inr (.inr (some (.inl (t))))), some (.inl (nI k)), some (.inl w), some (.inl v3), some (.inl v4), o5, o6, o7, o8, o9] [.inl s0] σ := by
    intro v3 v4 o5 o6 o7 o8 o9 s0
    refine jrun_ok jC X k_MT_isAttacked_30 30 _ _ _ o_MT_isAttacked_30 ?_
    simp only [k_MT_isAttacked_30, jrun, jstep, jldi, jldl, jlda, j1, j2, jl1, jl2, jli, ja1, jbr, jald, jast, jlald, jlast, jalen, jget, jput, jfit, jdup, jdupx, jdupx2, jdup2, jcat, jset1, jset2, jkill, List.getElem?_cons_zero, List.getElem?_cons_succ, List.set_cons_zero, List.set_cons_succ, List.length_cons, List.length_nil, Nat.reduceAdd, Nat.reduceLT, Int32.reduceToNatClampNeg, true_and, and_true, and_self, reduceCtorEq, not_false_eq_true, false_and, and_false, or_false, false_or, true_or, or_true, h0, hf, h1, ht, hm]
    refine ⟨fun h30 => C50 _ _ _ _ _ _ _, fun h30 => ?_⟩
    refine jk_Si X hR d_MT_isAttacked_38 q_MT_isAttacked_38 m_MT_step s_MT_step (c_MT_step M.2.1 E _ _ _ _ _) rfl rfl ⟨Nat.le_of_ble_eq_true rfl, Nat.le_of_ble_eq_true rfl⟩ ⟨rfl, rfl⟩ ⟨Nat.le_of_ble_eq_true rfl, Nat.le_of_ble_eq_true rfl⟩ (Nat.le_of_ble_eq_true rfl) (pc' := 41) rfl ?_
    exact C41 _ _ _ _ _ _ _ _ (mt_step_in _ _ _)
  have C24 : ∀ (v3 : Int32) (v4 : Int32) (o5 : Option jv) (o6 : Option jv) (o7 : Option jv) (o8 : Option jv) (o9 : Option jv) (s1 : Int32), (s1 < 0 ∨ vp_in s1 64) → jJ E jcl 10 M (jQ E jcl M (fun r σ' n' => poB σ n r σ' n') 0 0) n 0 0 24 [some (.inr (.inr (some (.inl (t))))), some (.inl (nI k)), some (.inl w), some (.inl v3), some (.inl v4), o5, o6, o7, o8, o9] [.inl s1, .inr (.inr (some (.inl (t))))] σ := by
    intro v3 v4 o5 o6 o7 o8 o9 s1 c0
    refine jrun_ok jC X k_MT_isAttacked_24 24 _ _ _ o_MT_isAttacked_24 ?_
    simp only [k_MT_isAttacked_24, jrun, jstep, jldi, jldl, jlda, j1, j2, jl1, jl2, jli, ja1, jbr, jald, jast, jlald, jlast, jalen, jget, jput, jfit, jdup, jdupx, jdupx2, jdup2, jcat, jset1, jset2, jkill, List.getElem?_cons_zero, List.getElem?_cons_succ, List.set_cons_zero, List.set_cons_succ, List.length_cons, List.length_nil, Nat.reduceAdd, Nat.reduceLT, Int32.reduceToNatClampNeg, true_and, and_true, and_self, reduceCtorEq, not_false_eq_true, false_and, and_false, or_false, false_or, true_or, or_true, h0, hf, h1, ht, hm]
    refine ?_
    refine jk_Vi X hR d_MT_isAttacked_27 q_MT_isAttacked_27 m_MT_stands i_MT_stands e_MT_stands (ci := 12) rfl rfl ht h0 (c_MT_stands M.2.1 E _ _ _ _ _ _ ht h0 hf hm h1 _ _ (by assumption)) rfl rfl ⟨Nat.le_of_ble_eq_true rfl, Nat.le_of_ble_eq_true rfl⟩ ⟨rfl, rfl⟩ ⟨Nat.le_of_ble_eq_true rfl, Nat.le_of_ble_eq_true rfl⟩ (Nat.le_of_ble_eq_true rfl) (pc' := 30) rfl ?_
    exact C30 _ _ _ _ _ _ _ _
  have C14 : ∀ (v3 : Int32) (o4 : Option jv) (o5 : Option jv) (o6 : Option jv) (o7 : Option jv) (o8 : Option jv) (o9 : Option jv) (s0 : Int32), jJ E jcl 10 M (jQ E jcl M (fun r σ' n' => poB σ n r σ' n') 0 0) n 0 0 14 [some (.inr (.inr (some (.inl (t))))), some (.inl (nI k)), some (.inl w), some (.inl v3), o4, o5, o6, o7, o8, o9] [.inl s0] σ := by
    intro v3 o4 o5 o6 o7 o8 o9 s0
    refine jrun_ok jC X k_MT_isAttacked_14 14 _ _ _ o_MT_isAttacked_14 ?_
    simp only [k_MT_isAttacked_14, jrun, jstep, jldi, jldl, jlda, j1, j2, jl1, jl2, jli, ja1, jbr, jald, jast, jlald, jlast, jalen, jget, jput, jfit, jdup, jdupx, jdupx2, jdup2, jcat, jset1, jset2, jkill, List.getElem?_cons_zero, List.getElem?_cons_succ, List.set_cons_zero, List.set_cons_succ, List.length_cons, List.length_nil, Nat.reduceAdd, Nat.reduceLT, Int32.reduceToNatClampNeg, true_and, and_true, and_self, reduceCtorEq, not_false_eq_true, false_and, and_false, or_false, false_or, true_or, or_true, h0, hf, h1, ht, hm]
    refine ?_
    refine jk_Si X hR d_MT_isAttacked_21 q_MT_isAttacked_21 m_MT_step s_MT_step (c_MT_step M.2.1 E _ _ _ _ _) rfl rfl ⟨Nat.le_of_ble_eq_true rfl, Nat.le_of_ble_eq_true rfl⟩ ⟨rfl, rfl⟩ ⟨Nat.le_of_ble_eq_true rfl, Nat.le_of_ble_eq_true rfl⟩ (Nat.le_of_ble_eq_true rfl) (pc' := 24) rfl ?_
    exact C24 _ _ _ _ _ _ _ _ (mt_step_in _ _ _)
  have C13 : ∀ (v3 : Int32) (o4 : Option jv) (o5 : Option jv) (o6 : Option jv) (o7 : Option jv) (o8 : Option jv) (o9 : Option jv), jJ E jcl 10 M (jQ E jcl M (fun r σ' n' => poB σ n r σ' n') 0 0) n 0 0 13 [some (.inr (.inr (some (.inl (t))))), some (.inl (nI k)), some (.inl w), some (.inl v3), o4, o5, o6, o7, o8, o9] [] σ := by
    intro v3 o4 o5 o6 o7 o8 o9
    refine jrun_ok jC X k_MT_isAttacked_13 13 _ _ _ o_MT_isAttacked_13 ?_
    simp only [k_MT_isAttacked_13, jrun, jstep, jldi, jldl, jlda, j1, j2, jl1, jl2, jli, ja1, jbr, jald, jast, jlald, jlast, jalen, jget, jput, jfit, jdup, jdupx, jdupx2, jdup2, jcat, jset1, jset2, jkill, List.getElem?_cons_zero, List.getElem?_cons_succ, List.set_cons_zero, List.set_cons_succ, List.length_cons, List.length_nil, Nat.reduceAdd, Nat.reduceLT, Int32.reduceToNatClampNeg, true_and, and_true, and_self, reduceCtorEq, not_false_eq_true, false_and, and_false, or_false, false_or, true_or, or_true, h0, hf, h1, ht, hm]
    exact C14 _ _ _ _ _ _ _ _
  refine jrun_ok jC X k_MT_isAttacked_0 0 _ _ _ o_MT_isAttacked_0 ?_
  simp only [k_MT_isAttacked_0, jrun, jstep, jldi, jldl, jlda, j1, j2, jl1, jl2, jli, ja1, jbr, jald, jast, jlald, jlast, jalen, jget, jput, jfit, jdup, jdupx, jdupx2, jdup2, jcat, jset1, jset2, jkill, List.getElem?_cons_zero, List.getElem?_cons_succ, List.set_cons_zero, List.set_cons_succ, List.length_cons, List.length_nil, Nat.reduceAdd, Nat.reduceLT, Int32.reduceToNatClampNeg, true_and, and_true, and_self, reduceCtorEq, not_false_eq_true, false_and, and_false, or_false, false_or, true_or, or_true, h0, hf, h1, ht, hm]
  exact ⟨fun h6 => C13 _ _ _ _ _ _ _, fun h6 => C14 _ _ _ _ _ _ _ _⟩
end
section
theorem in_of {q : Int32} {N : Nat} (hN : N < 2 ^ 31) (h : ∃ k : Nat, k < N ∧ q = nI k) : vp_in q N := by
  obtain ⟨k, hk, rfl⟩ := h
  exact vp_in_nI hk hN
theorem c_MT_isAttackedQ (l : Launch) (E : jE) (σ : Nat → jcell) (n : Nat) (t m : Nat) (fs : List jv) (men : Nat → Int32) (ht : t < n) (h0 : σ t = .inr (12, fs)) (hf : fs[24]? = some (.inr (.inr (some (.inl m))))) (hm : m < n) (h1 : σ m = .inl (.int, 64, .inl men)) (q : Int32) (hq : ∃ k : Nat, k < 64 ∧ q = nI k) (w : Int32) : jMet l E jcl jtb lw_tbl y_MT_isAttacked { frames := 2, cells := 0, slots := 0, locals := 90 } [.inr (.inr (some (.inl (t)))), .inl q, .inl w] σ n (poB σ n) := by
  obtain ⟨k, hk, rfl⟩ := hq
  exact c_MT_isAttacked l E σ n t m fs men ht h0 hf hm h1 k hk w
set_option maxRecDepth 100000 in
set_option maxHeartbeats 4000000 in
theorem c_MT_isInCheck (l : Launch) (E : jE) (σ : Nat → jcell) (n : Nat) (t m : Nat) (fs : List jv) (men : Nat → Int32) (ht : t < n) (h0 : σ t = .inr (12, fs)) (hf : fs[24]? = some (.inr (.inr (some (.inl m))))) (hm : m < n) (h1 : σ m = .inl (.int, 64, .inl men)) (w : Int32) : jMet l E jcl jtb lw_tbl y_MT_isInCheck { frames := 3, cells := 0, slots := 0, locals := 130 } [.inr (.inr (some (.inl (t)))), .inl w] σ n (fun r σ' n' => poB σ n r σ' n') := by
  refine jMet_of (hY := rfl) false (fun h => by cases h) (by decide) (Nat.le_of_ble_eq_true rfl) [some (.inr (.inr (some (.inl (t))))), some (.inl w)] rfl ?_
  intro M hl hR X hr
  refine jrun_ok jC X k_MT_isInCheck_0 0 _ _ _ o_MT_isInCheck_0 ?_
  simp only [k_MT_isInCheck_0, jrun, jstep, jldi, jldl, jlda, j1, j2, jl1, jl2, jli, ja1, jbr, jald, jast, jlald, jlast, jalen, jget, jput, jfit, jdup, jdupx, jdupx2, jdup2, jcat, jset1, jset2, jkill, List.getElem?_cons_zero, List.getElem?_cons_succ, List.set_cons_zero, List.set_cons_succ, List.length_cons, List.length_nil, Nat.reduceAdd, Nat.reduceLT, Int32.reduceToNatClampNeg, true_and, and_true, and_self, reduceCtorEq, not_false_eq_true, false_and, and_false, or_false, false_or, true_or, or_true]
  refine jk_Vg X hR d_MT_isInCheck_3 q_MT_isInCheck_3 m_MT_kingOf i_MT_kingOf e_MT_kingOf (ci := 12) rfl rfl ht h0 (c_MT_kingOf M.2.1 E _ _ _ _ _ _ ht h0 hf hm h1 w) rfl rfl ⟨Nat.le_of_ble_eq_true rfl, Nat.le_of_ble_eq_true rfl⟩ (c' := 0) rfl (s' := 0) rfl ⟨Nat.le_of_ble_eq_true rfl, Nat.le_of_ble_eq_true rfl⟩ (Nat.le_of_ble_eq_true rfl) (pc' := 6) rfl ?_
  rintro _ _ _ ⟨j, hj, rfl, rfl, rfl⟩
  simp only [Option.toList_some, List.cons_append, List.nil_append]
  refine jrun_ok jC X k_MT_isInCheck_6 6 _ _ _ o_MT_isInCheck_6 ?_
  simp only [k_MT_isInCheck_6, jrun, jstep, jldi, jldl, jlda, j1, j2, jl1, jl2, jli, ja1, jbr, jald, jast, jlald, jlast, jalen, jget, jput, jfit, jdup, jdupx, jdupx2, jdup2, jcat, jset1, jset2, jkill, List.getElem?_cons_zero, List.getElem?_cons_succ, List.set_cons_zero, List.set_cons_succ, List.length_cons, List.length_nil, Nat.reduceAdd, Nat.reduceLT, Int32.reduceToNatClampNeg, true_and, and_true, and_self, reduceCtorEq, not_false_eq_true, false_and, and_false, or_false, false_or, true_or, or_true]
  refine jk_VB X hR d_MT_isInCheck_9 q_MT_isInCheck_9 m_MT_isAttacked i_MT_isAttacked e_MT_isAttacked (ci := 12) rfl rfl ht h0 (c_MT_isAttacked M.2.1 E _ _ _ _ _ _ ht h0 hf hm h1 j hj _) rfl rfl ⟨Nat.le_of_ble_eq_true rfl, Nat.le_of_ble_eq_true rfl⟩ ⟨rfl, rfl⟩ ⟨Nat.le_of_ble_eq_true rfl, Nat.le_of_ble_eq_true rfl⟩ (Nat.le_of_ble_eq_true rfl) (pc' := 12) rfl ?_
  intro b hb
  exact jk_iret X d_MT_isInCheck_12 hr (bo_n hb) (Nat.le_refl _) (Nat.le_refl _) ⟨_, hb, rfl, rfl, rfl⟩
set_option maxRecDepth 100000 in
set_option maxHeartbeats 4000000 in
theorem c_MT_isTaking (l : Launch) (E : jE) (σ : Nat → jcell) (n : Nat) (t m : Nat) (fs : List jv) (men : Nat → Int32) (ht : t < n) (h0 : σ t = .inr (12, fs)) (hf : fs[24]? = some (.inr (.inr (some (.inl m))))) (hm : m < n) (h1 : σ m = .inl (.int, 64, .inl men)) (mv : Int32) (hfr : vp_in (mv - mv / 64 * 64) 64) (hto : vp_in (mv / 64 - mv / 64 / 64 * 64) 64) : jMet l E jcl jtb lw_tbl y_MT_isTaking { frames := 1, cells := 0, slots := 0, locals := 40 } [.inr (.inr (some (.inl (t)))), .inl mv] σ n (fun r σ' n' => poB σ n r σ' n') := by
  refine jMet_of (hY := rfl) false (fun h => by cases h) (by decide) (Nat.le_of_ble_eq_true rfl) [some (.inr (.inr (some (.inl (t))))), some (.inl mv), none, none] rfl ?_
  intro M hl hR X hr
  have C51 : ∀ (s0 : Int32), (s0 = 0 ∨ s0 = 1) → jJ E jcl 4 M (jQ E jcl M (fun r σ' n' => poB σ n r σ' n') 0 0) n 0 0 51 [some (.inr (.inr (some (.inl (t))))), some (.inl mv), some (.inl (mv - mv / 64 * 64)), some (.inl (mv / 64 - mv / 64 / 64 * 64))] [.inl s0] σ := by
    intro s0 c0
    exact jk_iret X d_MT_isTaking_51 hr (by first | rfl | exact bo_n (by assumption)) (Nat.le_refl _) (Nat.le_refl _) ⟨_, (by first | exact Or.inl rfl | exact Or.inr rfl | assumption), rfl, rfl, rfl⟩
  have C50 : jJ E jcl 4 M (jQ E jcl M (fun r σ' n' => poB σ n r σ' n') 0 0) n 0 0 50 [some (.inr (.inr (some (.inl (t))))), some (.inl mv), some (.inl (mv - mv / 64 * 64)), some (.inl (mv / 64 - mv / 64 / 64 * 64))] [] σ := by
    refine jrun_ok jC X k_MT_isTaking_50 50 _ _ _ o_MT_isTaking_50 ?_
    simp only [k_MT_isTaking_50, jrun, jstep, jldi, jldl, jlda, j1, j2, jl1, jl2, jli, ja1, jbr, jald, jast, jlald, jlast, jalen, jget, jput, jfit, jdup, jdupx, jdupx2, jdup2, jcat, jset1, jset2, jkill, List.getElem?_cons_zero, List.getElem?_cons_succ, List.set_cons_zero, List.set_cons_succ, List.length_cons, List.length_nil, Nat.reduceAdd, Nat.reduceLT, Int32.reduceToNatClampNeg, true_and, and_true, and_self, reduceCtorEq, not_false_eq_true, false_and, and_false, or_false, false_or, true_or, or_true, h0, hf, h1, ht, hm]
    exact C51 _ (by first | assumption | omega | (simp_all; done) | decide)
  have C46 : jJ E jcl 4 M (jQ E jcl M (fun r σ' n' => poB σ n r σ' n') 0 0) n 0 0 46 [some (.inr (.inr (some (.inl (t))))), some (.inl mv), some (.inl (mv - mv / 64 * 64)), some (.inl (mv / 64 - mv / 64 / 64 * 64))] [] σ := by
    refine jrun_ok jC X k_MT_isTaking_46 46 _ _ _ o_MT_isTaking_46 ?_
    simp only [k_MT_isTaking_46, jrun, jstep, jldi, jldl, jlda, j1, j2, jl1, jl2, jli, ja1, jbr, jald, jast, jlald, jlast, jalen, jget, jput, jfit, jdup, jdupx, jdupx2, jdup2, jcat, jset1, jset2, jkill, List.getElem?_cons_zero, List.getElem?_cons_succ, List.set_cons_zero, List.set_cons_succ, List.length_cons, List.length_nil, Nat.reduceAdd, Nat.reduceLT, Int32.reduceToNatClampNeg, true_and, and_true, and_self, reduceCtorEq, not_false_eq_true, false_and, and_false, or_false, false_or, true_or, or_true, h0, hf, h1, ht, hm]
    exact C51 _ (by first | assumption | omega | (simp_all; done) | decide)
  have C31 : ∀ (s0 : Int32), jJ E jcl 4 M (jQ E jcl M (fun r σ' n' => poB σ n r σ' n') 0 0) n 0 0 31 [some (.inr (.inr (some (.inl (t))))), some (.inl mv), some (.inl (mv - mv / 64 * 64)), some (.inl (mv / 64 - mv / 64 / 64 * 64))] [.inl s0] σ := by
    intro s0
    refine jrun_ok jC X k_MT_isTaking_31 31 _ _ _ o_MT_isTaking_31 ?_
    simp only [k_MT_isTaking_31, jrun, jstep, jldi, jldl, jlda, j1, j2, jl1, jl2, jli, ja1, jbr, jald, jast, jlald, jlast, jalen, jget, jput, jfit, jdup, jdupx, jdupx2, jdup2, jcat, jset1, jset2, jkill, List.getElem?_cons_zero, List.getElem?_cons_succ, List.set_cons_zero, List.set_cons_succ, List.length_cons, List.length_nil, Nat.reduceAdd, Nat.reduceLT, Int32.reduceToNatClampNeg, true_and, and_true, and_self, reduceCtorEq, not_false_eq_true, false_and, and_false, or_false, false_or, true_or, or_true, h0, hf, h1, ht, hm]
    exact ⟨fun h32 => C50, fun h32 => ⟨by decide, ⟨by decide, ⟨fun h43 => C50, fun h43 => C46⟩⟩⟩⟩
  refine jrun_ok jC X k_MT_isTaking_0 0 _ _ _ o_MT_isTaking_0 ?_
  simp only [k_MT_isTaking_0, jrun, jstep, jldi, jldl, jlda, j1, j2, jl1, jl2, jli, ja1, jbr, jald, jast, jlald, jlast, jalen, jget, jput, jfit, jdup, jdupx, jdupx2, jdup2, jcat, jset1, jset2, jkill, List.getElem?_cons_zero, List.getElem?_cons_succ, List.set_cons_zero, List.set_cons_succ, List.length_cons, List.length_nil, Nat.reduceAdd, Nat.reduceLT, Int32.reduceToNatClampNeg, true_and, and_true, and_self, reduceCtorEq, not_false_eq_true, false_and, and_false, or_false, false_or, true_or, or_true, h0, hf, h1, ht, hm]
  refine ⟨by decide, ⟨by decide, ⟨by decide, ⟨hto, ⟨fun h19 => C46, fun h19 => ⟨hfr, ?_⟩⟩⟩⟩⟩⟩
  refine jk_Si X hR d_MT_isTaking_28 q_MT_isTaking_28 m_MT_kind s_MT_kind (c_MT_kind M.2.1 E _ _ _) rfl rfl ⟨Nat.le_of_ble_eq_true rfl, Nat.le_of_ble_eq_true rfl⟩ ⟨rfl, rfl⟩ ⟨Nat.le_of_ble_eq_true rfl, Nat.le_of_ble_eq_true rfl⟩ (Nat.le_of_ble_eq_true rfl) (pc' := 31) rfl ?_
  exact C31 _
set_option maxRecDepth 100000 in
set_option maxHeartbeats 4000000 in
theorem c_MT_isClear (l : Launch) (E : jE) (σ : Nat → jcell) (n : Nat) (t m : Nat) (fs : List jv) (men : Nat → Int32) (ht : t < n) (h0 : σ t = .inr (12, fs)) (hf : fs[24]? = some (.inr (.inr (some (.inl m))))) (hm : m < n) (h1 : σ m = .inl (.int, 64, .inl men)) (x y : Int32) (a b : Nat) (hx : x = nI a) (hy : y = nI b) (ha : a ≤ 65) (hb : b < 64) : jMet l E jcl jtb lw_tbl y_MT_isClear { frames := 0, cells := 0, slots := 0, locals := 0 } [.inr (.inr (some (.inl (t)))), .inl x, .inl y] σ n (fun r σ' n' => poB σ n r σ' n') := by
  refine jMet_of (hY := rfl) false (fun h => by cases h) (by decide) (Nat.le_of_ble_eq_true rfl) [some (.inr (.inr (some (.inl (t))))), some (.inl x), some (.inl y), none, none] rfl ?_
  intro M hl hR X hr
  subst hx; subst hy
  have hloop : ∀ (u i : Nat) (v3 : Int32), b + 1 - i ≤ u → i ≤ 65 → (v3 = 0 ∨ v3 = 1) → jJ E jcl 5 M (jQ E jcl M (fun r σ' n' => poB σ n r σ' n') 0 0) n 0 0 5 [some (.inr (.inr (some (.inl (t))))), some (.inl (nI a)), some (.inl (nI b)), some (.inl v3), some (.inl (nI i))] [] σ := by
    intro u
    induction u with
    | zero =>
      intro i v3 hu hi c0
      have C37 : ∀ (v3 : Int32), (v3 = 0 ∨ v3 = 1) → jJ E jcl 5 M (jQ E jcl M (fun r σ' n' => poB σ n r σ' n') 0 0) n 0 0 37 [some (.inr (.inr (some (.inl (t))))), some (.inl (nI a)), some (.inl (nI b)), some (.inl v3), some (.inl (nI i))] [] σ := by
        intro v3 c0
        refine jrun_ok jC X k_MT_isClear_37 37 _ _ _ o_MT_isClear_37 ?_
        simp only [k_MT_isClear_37, jrun, jstep, jldi, jldl, jlda, j1, j2, jl1, jl2, jli, ja1, jbr, jald, jast, jlald, jlast, jalen, jget, jput, jfit, jdup, jdupx, jdupx2, jdup2, jcat, jset1, jset2, jkill, List.getElem?_cons_zero, List.getElem?_cons_succ, List.set_cons_zero, List.set_cons_succ, List.length_cons, List.length_nil, Nat.reduceAdd, Nat.reduceLT, Int32.reduceToNatClampNeg, true_and, and_true, and_self, reduceCtorEq, not_false_eq_true, false_and, and_false, or_false, false_or, true_or, or_true, h0, hf, h1, ht, hm]
        refine ?_
        exact jk_iret X d_MT_isClear_38 hr (bo_n (by assumption)) (Nat.le_refl _) (Nat.le_refl _) ⟨_, (by assumption), rfl, rfl, rfl⟩
      refine jrun_ok jC X k_MT_isClear_5 5 _ _ _ o_MT_isClear_5 ?_
      simp only [k_MT_isClear_5, jrun, jstep, jldi, jldl, jlda, j1, j2, jl1, jl2, jli, ja1, jbr, jald, jast, jlald, jlast, jalen, jget, jput, jfit, jdup, jdupx, jdupx2, jdup2, jcat, jset1, jset2, jkill, List.getElem?_cons_zero, List.getElem?_cons_succ, List.set_cons_zero, List.set_cons_succ, List.length_cons, List.length_nil, Nat.reduceAdd, Nat.reduceLT, Int32.reduceToNatClampNeg, true_and, and_true, and_self, reduceCtorEq, not_false_eq_true, false_and, and_false, or_false, false_or, true_or, or_true, h0, hf, h1, ht, hm]
      refine ⟨fun _ => C37 _ c0, fun h => absurd ?_ h⟩
      rw [nI_ltI (by omega) (by omega)]; omega
    | succ u ih =>
      intro i v3 hu hi c0
      have C37 : ∀ (v3 : Int32), (v3 = 0 ∨ v3 = 1) → jJ E jcl 5 M (jQ E jcl M (fun r σ' n' => poB σ n r σ' n') 0 0) n 0 0 37 [some (.inr (.inr (some (.inl (t))))), some (.inl (nI a)), some (.inl (nI b)), some (.inl v3), some (.inl (nI i))] [] σ := by
        intro v3 c0
        refine jrun_ok jC X k_MT_isClear_37 37 _ _ _ o_MT_isClear_37 ?_
        simp only [k_MT_isClear_37, jrun, jstep, jldi, jldl, jlda, j1, j2, jl1, jl2, jli, ja1, jbr, jald, jast, jlald, jlast, jalen, jget, jput, jfit, jdup, jdupx, jdupx2, jdup2, jcat, jset1, jset2, jkill, List.getElem?_cons_zero, List.getElem?_cons_succ, List.set_cons_zero, List.set_cons_succ, List.length_cons, List.length_nil, Nat.reduceAdd, Nat.reduceLT, Int32.reduceToNatClampNeg, true_and, and_true, and_self, reduceCtorEq, not_false_eq_true, false_and, and_false, or_false, false_or, true_or, or_true, h0, hf, h1, ht, hm]
        refine ?_
        exact jk_iret X d_MT_isClear_38 hr (bo_n (by assumption)) (Nat.le_refl _) (Nat.le_refl _) ⟨_, (by assumption), rfl, rfl, rfl⟩
      by_cases hib : b < i
      · refine jrun_ok jC X k_MT_isClear_5 5 _ _ _ o_MT_isClear_5 ?_
        simp only [k_MT_isClear_5, jrun, jstep, jldi, jldl, jlda, j1, j2, jl1, jl2, jli, ja1, jbr, jald, jast, jlald, jlast, jalen, jget, jput, jfit, jdup, jdupx, jdupx2, jdup2, jcat, jset1, jset2, jkill, List.getElem?_cons_zero, List.getElem?_cons_succ, List.set_cons_zero, List.set_cons_succ, List.length_cons, List.length_nil, Nat.reduceAdd, Nat.reduceLT, Int32.reduceToNatClampNeg, true_and, and_true, and_self, reduceCtorEq, not_false_eq_true, false_and, and_false, or_false, false_or, true_or, or_true, h0, hf, h1, ht, hm]
        refine ⟨fun _ => C37 _ c0, fun h => absurd ?_ h⟩
        rw [nI_ltI (by omega) (by omega)]; exact hib
      have C30 : ∀ (v3 s0 : Int32), (v3 = 0 ∨ v3 = 1) → (s0 = 0 ∨ s0 = 1) → jJ E jcl 5 M (jQ E jcl M (fun r σ' n' => poB σ n r σ' n') 0 0) n 0 0 30 [some (.inr (.inr (some (.inl (t))))), some (.inl (nI a)), some (.inl (nI b)), some (.inl v3), some (.inl (nI i))] [.inl s0] σ := by
        intro v3 s0 c0 c1
        refine jrun_ok jC X k_MT_isClear_30 30 _ _ _ o_MT_isClear_30 ?_
        simp only [k_MT_isClear_30, jrun, jstep, jldi, jldl, jlda, j1, j2, jl1, jl2, jli, ja1, jbr, jald, jast, jlald, jlast, jalen, jget, jput, jfit, jdup, jdupx, jdupx2, jdup2, jcat, jset1, jset2, jkill, List.getElem?_cons_zero, List.getElem?_cons_succ, List.set_cons_zero, List.set_cons_succ, List.length_cons, List.length_nil, Nat.reduceAdd, Nat.reduceLT, Int32.reduceToNatClampNeg, true_and, and_true, and_self, reduceCtorEq, not_false_eq_true, false_and, and_false, or_false, false_or, true_or, or_true]
        rw [nI_1]
        exact ih (i + 1) s0 (by omega) (by omega) c1
      have C29 : ∀ (v3 : Int32), (v3 = 0 ∨ v3 = 1) → jJ E jcl 5 M (jQ E jcl M (fun r σ' n' => poB σ n r σ' n') 0 0) n 0 0 29 [some (.inr (.inr (some (.inl (t))))), some (.inl (nI a)), some (.inl (nI b)), some (.inl v3), some (.inl (nI i))] [] σ := by
        intro v3 c0
        refine jrun_ok jC X k_MT_isClear_29 29 _ _ _ o_MT_isClear_29 ?_
        simp only [k_MT_isClear_29, jrun, jstep, jldi, jldl, jlda, j1, j2, jl1, jl2, jli, ja1, jbr, jald, jast, jlald, jlast, jalen, jget, jput, jfit, jdup, jdupx, jdupx2, jdup2, jcat, jset1, jset2, jkill, List.getElem?_cons_zero, List.getElem?_cons_succ, List.set_cons_zero, List.set_cons_succ, List.length_cons, List.length_nil, Nat.reduceAdd, Nat.reduceLT, Int32.reduceToNatClampNeg, true_and, and_true, and_self, reduceCtorEq, not_false_eq_true, false_and, and_false, or_false, false_or, true_or, or_true, h0, hf, h1, ht, hm]
        exact C30 _ _ (by assumption) (by first | assumption | exact Or.inl rfl | exact Or.inr rfl)
      refine jrun_ok jC X k_MT_isClear_5 5 _ _ _ o_MT_isClear_5 ?_
      simp only [k_MT_isClear_5, jrun, jstep, jldi, jldl, jlda, j1, j2, jl1, jl2, jli, ja1, jbr, jald, jast, jlald, jlast, jalen, jget, jput, jfit, jdup, jdupx, jdupx2, jdup2, jcat, jset1, jset2, jkill, List.getElem?_cons_zero, List.getElem?_cons_succ, List.set_cons_zero, List.set_cons_succ, List.length_cons, List.length_nil, Nat.reduceAdd, Nat.reduceLT, Int32.reduceToNatClampNeg, true_and, and_true, and_self, reduceCtorEq, not_false_eq_true, false_and, and_false, or_false, false_or, true_or, or_true, h0, hf, h1, ht, hm]
      exact ⟨fun h8 => C37 _ c0, fun h8 => ⟨fun h12 => C29 _ (by first | assumption | omega | (simp_all; done) | decide), fun h12 => ⟨(vp_in_nI (by omega) (by omega)), ⟨fun h22 => C29 _ (by first | assumption | omega | (simp_all; done) | decide), fun h22 => C30 _ _ (by assumption) (by first | assumption | exact Or.inl rfl | exact Or.inr rfl)⟩⟩⟩⟩
  refine jrun_ok jC X k_MT_isClear_0 0 _ _ _ o_MT_isClear_0 ?_
  simp only [k_MT_isClear_0, jrun, jstep, jldi, jldl, jlda, j1, j2, jl1, jl2, jli, ja1, jbr, jald, jast, jlald, jlast, jalen, jget, jput, jfit, jdup, jdupx, jdupx2, jdup2, jcat, jset1, jset2, jkill, List.getElem?_cons_zero, List.getElem?_cons_succ, List.set_cons_zero, List.set_cons_succ, List.length_cons, List.length_nil, Nat.reduceAdd, Nat.reduceLT, Int32.reduceToNatClampNeg, true_and, and_true, and_self, reduceCtorEq, not_false_eq_true, false_and, and_false, or_false, false_or, true_or, or_true]
  exact hloop (b + 1) a 1 (by omega) ha (Or.inr rfl)
end
section
/-- a truth value that is 1 only where g holds -/
def poG (g : Prop) (σ : Nat → jcell) (n : Nat) : jPo := fun r σ' n' => ∃ b : Int32, (b = 0 ∨ b = 1) ∧ (b = 1 → g) ∧ r = some (.inl b) ∧ σ' = σ ∧ n' = n
section JCD
variable {E : jE} {own : String} {Ts : List Jvm.Cond} {cl : List vw_C} {tb : jTb} {nL : Nat} {ini : Bool} {cc : ByteArray} {M : jM} {Q : State → Prop} {n cells slots : Nat}
theorem jk_VG {g : Prop} (X : jX E own Ts cl tb nL ini cc M) {rm rc : Room} (hR : M.2.2.2.1 = rm) {pc i wi k ci a : Nat} {Y : jY} (hd : decode cc pc = .ok (.invokevirtual i, 3)) (hw : jlm Ts wi own i Y.1 = true) (hm : jmth Ts Y k) (hin : Jvm.Cond.instanceMethod Y.1 ∈ jTA Ts) (hse : Jvm.Cond.selects Y.1.cls Y.1 Y.1 ∈ jTA Ts) {q : vw_C} (hq : cl[ci]? = some q) (hqc : q.1 = Y.1.cls) {lv : List (Option jv)} {r vals : List jv} {σ : Nat → jcell} {fs : List jv} (ha : a < n) (he : σ a = .inr (ci, fs)) (hM : jMet M.2.1 E cl tb Ts Y rc (.inr (.inr (some (.inl a))) :: vals) σ n (poG g σ n)) {st : List jv} (hs : st = vals.reverse ++ .inr (.inr (some (.inl a))) :: r) (hk : vals.length = k)
    (hf : rc.frames + 1 ≤ rm.frames ∧ 8 + (Y.2.2.1 + 11) + rc.locals ≤ rm.locals) (h0 : rc.cells = 0 ∧ rc.slots = 0) (hc : cells ≤ rm.cells ∧ slots ≤ rm.slots) (hz : (r.map jcat).sum ≤ 8) {pc' : Nat} (hp : pc + 3 = pc')
    (kk : ∀ b : Int32, b = 0 ∨ b = 1 → (b = 1 → g) → jJ E cl nL M Q n cells slots pc' lv (.inl b :: r) σ) : jJ E cl nL M Q n cells slots pc lv st σ := by
  refine jk_callV X hR hd hw hm hin hse hq hqc ha he hM hs hk hf (by rw [h0.1, h0.2]; exact hc) hz ?_
  rintro _ _ _ ⟨b, hb, hg, rfl, rfl, rfl⟩
  rw [h0.1, h0.2, hp]
  exact kk b hb hg
end JCD
/-- where a pawn may go at most; where another man may -/
def geoP (a b : Nat) : Bool := b == a + 8 || a == b + 8 || b == a + 16 || a == b + 16 || ((a % 8 + 1 == b % 8 || b % 8 + 1 == a % 8) && (a / 8 + 1 == b / 8 || b / 8 + 1 == a / 8))
def gfi (a b : Nat) : Int32 := nI b - nI b / 8 * 8 - (nI a - nI a / 8 * 8)
def gra (a b : Nat) : Int32 := nI b / 8 - nI a / 8
set_option maxRecDepth 100000 in
theorem pg_1 : ∀ v ∈ ([8, -8] : List Int32), ∀ a, a < 64 → ∀ b, b < 64 → nI b = nI a + v → geoP a b = true := by decide +kernel
set_option maxRecDepth 100000 in
theorem pg_2 : ∀ v ∈ ([8, -8] : List Int32), ∀ a, a < 64 → ∀ b, b < 64 → nI b = nI a + 2 * v → geoP a b = true ∧ ¬ (nI a + v < 0 ∨ 64 ≤ (nI a + v).toNatClampNeg) := by decide +kernel
set_option maxRecDepth 100000 in
theorem pg_3 : ∀ v ∈ ([8, -8] : List Int32), ∀ a, a < 64 → ∀ b, b < 64 → nI b / 8 = nI a / 8 + v / 8 → (gfi a b = 1 ∨ gfi a b = -1) → geoP a b = true := by decide +kernel
theorem up_in {v : Int32} (h : v = 8 ∨ v = -8) : v ∈ ([8, -8] : List Int32) := by rcases h with rfl | rfl <;> decide
set_option maxRecDepth 100000 in
theorem mc_mid : ∀ h ∈ ([4, 60] : List Nat), ∀ b, b < 64 → ((nI h + nI b) / 2).toNatClampNeg < 64 ∧ (nI h + nI b) / 2 = nI ((nI h + nI b) / 2).toNatClampNeg := by decide +kernel
set_option maxRecDepth 100000 in
set_option maxHeartbeats 4000000 in
theorem c_MT_mayCastle (l : Launch) (E : jE) (σ : Nat → jcell) (n : Nat) (t m : Nat) (fs : List jv) (men : Nat → Int32) (ht : t < n) (h0 : σ t = .inr (12, fs)) (hf : fs[24]? = some (.inr (.inr (some (.inl m))))) (hm : m < n) (h1 : σ m = .inl (.int, 64, .inl men)) (sd ri pa : Int32) (h25 : fs[25]? = some (.inl sd)) (h26 : fs[26]? = some (.inl ri)) (h27 : fs[27]? = some (.inl pa)) (hsd : sd = 0 ∨ sd = 1) (b : Nat) (hb : b < 64) : jMet l E jcl jtb lw_tbl y_MT_mayCastle { frames := 3, cells := 0, slots := 0, locals := 130 } [.inr (.inr (some (.inl (t)))), .inl (nI b)] σ n (fun r σ' n' => poB σ n r σ' n') := by
  refine jMet_of (hY := rfl) false (fun h => by cases h) (by decide) (Nat.le_of_ble_eq_true rfl) [some (.inr (.inr (some (.inl (t))))), some (.inl (nI b)), none, none, none, none] rfl ?_
  intro M hl hR X hr
  obtain ⟨hh, hhs, ehh⟩ : ∃ hh : Nat, (hh = 4 ∨ hh = 60) ∧ (4 : Int32) + 56 * sd = nI hh := by
    rcases hsd with rfl | rfl
    · exact ⟨4, Or.inl rfl, rfl⟩
    · exact ⟨60, Or.inr rfl, rfl⟩
  have hhm : hh ∈ ([4, 60] : List Nat) := by rcases hhs with rfl | rfl <;> decide
  have C131 : ∀ (v3 : Int32) (v4 : Int32) (v5 : Int32) (s0 : Int32), (s0 = 0 ∨ s0 = 1) → jJ E jcl 6 M (jQ E jcl M (fun r σ' n' => poB σ n r σ' n') 0 0) n 0 0 131 [some (.inr (.inr (some (.inl (t))))), some (.inl (nI b)), some (.inl (nI hh)), some (.inl v3), some (.inl v4), some (.inl v5)] [.inl s0] σ := by
    intro v3 v4 v5 s0 c0
    exact jk_iret X d_MT_mayCastle_131 hr (bo_n (by assumption)) (Nat.le_refl _) (Nat.le_refl _) ⟨_, (by assumption), rfl, rfl, rfl⟩
  have C130 : ∀ (v3 : Int32) (v4 : Int32) (v5 : Int32), jJ E jcl 6 M (jQ E jcl M (fun r σ' n' => poB σ n r σ' n') 0 0) n 0 0 130 [some (.inr (.inr (some (.inl (t))))), some (.inl (nI b)), some (.inl (nI hh)), some (.inl v3), some (.inl v4), some (.inl v5)] [] σ := by
    intro v3 v4 v5
    refine jrun_ok jC X k_MT_mayCastle_130 130 _ _ _ o_MT_mayCastle_130 ?_
    simp only [k_MT_mayCastle_130, jrun, jstep, jldi, jldl, jlda, j1, j2, jl1, jl2, jli, ja1, jbr, jald, jast, jlald, jlast, jalen, jget, jput, jfit, jdup, jdupx, jdupx2, jdup2, jcat, jset1, jset2, jkill, List.getElem?_cons_zero, List.getElem?_cons_succ, List.set_cons_zero, List.set_cons_succ, List.length_cons, List.length_nil, Nat.reduceAdd, Nat.reduceLT, Int32.reduceToNatClampNeg, true_and, and_true, and_self, reduceCtorEq, not_false_eq_true, false_and, and_false, or_false, false_or, true_or, or_true, h0, hf, h1, ht, hm, h25, h26, h27, ehh]
    exact C131 _ _ _ _ (by first | assumption | exact Or.inl rfl | exact Or.inr rfl)
  have C123 : ∀ (v3 : Int32) (v4 : Int32) (v5 : Int32) (s0 : Int32), jJ E jcl 6 M (jQ E jcl M (fun r σ' n' => poB σ n r σ' n') 0 0) n 0 0 123 [some (.inr (.inr (some (.inl (t))))), some (.inl (nI b)), some (.inl (nI hh)), some (.inl v3), some (.inl v4), some (.inl v5)] [.inl s0] σ := by
    intro v3 v4 v5 s0
    refine jrun_ok jC X k_MT_mayCastle_123 123 _ _ _ o_MT_mayCastle_123 ?_
    simp only [k_MT_mayCastle_123, jrun, jstep, jldi, jldl, jlda, j1, j2, jl1, jl2, jli, ja1, jbr, jald, jast, jlald, jlast, jalen, jget, jput, jfit, jdup, jdupx, jdupx2, jdup2, jcat, jset1, jset2, jkill, List.getElem?_cons_zero, List.getElem?_cons_succ, List.set_cons_zero, List.set_cons_succ, List.length_cons, List.length_nil, Nat.reduceAdd, Nat.reduceLT, Int32.reduceToNatClampNeg, true_and, and_true, and_self, reduceCtorEq, not_false_eq_true, false_and, and_false, or_false, false_or, true_or, or_true, h0, hf, h1, ht, hm, h25, h26, h27, ehh]
    exact ⟨fun h123 => C130 _ _ _, fun h123 => C131 _ _ _ _ (by first | assumption | exact Or.inl rfl | exact Or.inr rfl)⟩
  have C105 : ∀ (v3 : Int32) (v4 : Int32) (v5 : Int32) (s0 : Int32), jJ E jcl 6 M (jQ E jcl M (fun r σ' n' => poB σ n r σ' n') 0 0) n 0 0 105 [some (.inr (.inr (some (.inl (t))))), some (.inl (nI b)), some (.inl (nI hh)), some (.inl v3), some (.inl v4), some (.inl v5)] [.inl s0] σ := by
    intro v3 v4 v5 s0
    refine jrun_ok jC X k_MT_mayCastle_105 105 _ _ _ o_MT_mayCastle_105 ?_
    simp only [k_MT_mayCastle_105, jrun, jstep, jldi, jldl, jlda, j1, j2, jl1, jl2, jli, ja1, jbr, jald, jast, jlald, jlast, jalen, jget, jput, jfit, jdup, jdupx, jdupx2, jdup2, jcat, jset1, jset2, jkill, List.getElem?_cons_zero, List.getElem?_cons_succ, List.set_cons_zero, List.set_cons_succ, List.length_cons, List.length_nil, Nat.reduceAdd, Nat.reduceLT, Int32.reduceToNatClampNeg, true_and, and_true, and_self, reduceCtorEq, not_false_eq_true, false_and, and_false, or_false, false_or, true_or, or_true, h0, hf, h1, ht, hm, h25, h26, h27, ehh]
    refine ⟨fun h105 => C130 _ _ _, fun h105 => ⟨by decide, ?_⟩⟩
    refine jk_VB X hR d_MT_mayCastle_120 q_MT_mayCastle_120 m_MT_isAttacked i_MT_isAttacked e_MT_isAttacked (ci := 12) rfl rfl ht h0 (c_MT_isAttackedQ M.2.1 E _ _ _ _ _ _ ht h0 hf hm h1 _ ⟨_, (mc_mid hh hhm b hb).1, (mc_mid hh hhm b hb).2⟩ _) rfl rfl ⟨Nat.le_of_ble_eq_true rfl, Nat.le_of_ble_eq_true rfl⟩ ⟨rfl, rfl⟩ ⟨Nat.le_of_ble_eq_true rfl, Nat.le_of_ble_eq_true rfl⟩ (Nat.le_of_ble_eq_true rfl) (pc' := 123) rfl ?_
    intro vb cb
    exact C123 _ _ _ _
  have C82 : ∀ (v3 : Int32) (v4 : Int32) (o5 : Option jv) (s0 : Int32), jJ E jcl 6 M (jQ E jcl M (fun r σ' n' => poB σ n r σ' n') 0 0) n 0 0 82 [some (.inr (.inr (some (.inl (t))))), some (.inl (nI b)), some (.inl (nI hh)), some (.inl v3), some (.inl v4), o5] [.inl s0] σ := by
    intro v3 v4 o5 s0
    refine jrun_ok jC X k_MT_mayCastle_82 82 _ _ _ o_MT_mayCastle_82 ?_
    simp only [k_MT_mayCastle_82, jrun, jstep, jldi, jldl, jlda, j1, j2, jl1, jl2, jli, ja1, jbr, jald, jast, jlald, jlast, jalen, jget, jput, jfit, jdup, jdupx, jdupx2, jdup2, jcat, jset1, jset2, jkill, List.getElem?_cons_zero, List.getElem?_cons_succ, List.set_cons_zero, List.set_cons_succ, List.length_cons, List.length_nil, Nat.reduceAdd, Nat.reduceLT, Int32.reduceToNatClampNeg, true_and, and_true, and_self, reduceCtorEq, not_false_eq_true, false_and, and_false, or_false, false_or, true_or, or_true, h0, hf, h1, ht, hm, h25, h26, h27, ehh]
    refine ⟨fun h86 => C130 _ _ _, fun h86 => ⟨fun h91 => C130 _ _ _, fun h91 => ?_⟩⟩
    refine jk_VB X hR d_MT_mayCastle_102 q_MT_mayCastle_102 m_MT_isAttacked i_MT_isAttacked e_MT_isAttacked (ci := 12) rfl rfl ht h0 (c_MT_isAttackedQ M.2.1 E _ _ _ _ _ _ ht h0 hf hm h1 _ ⟨hh, by omega, rfl⟩ _) rfl rfl ⟨Nat.le_of_ble_eq_true rfl, Nat.le_of_ble_eq_true rfl⟩ ⟨rfl, rfl⟩ ⟨Nat.le_of_ble_eq_true rfl, Nat.le_of_ble_eq_true rfl⟩ (Nat.le_of_ble_eq_true rfl) (pc' := 105) rfl ?_
    intro vb cb
    exact C105 _ _ _ _
  have C72 : ∀ (v3 : Int32) (v4 : Int32) (o5 : Option jv), jJ E jcl 6 M (jQ E jcl M (fun r σ' n' => poB σ n r σ' n') 0 0) n 0 0 72 [some (.inr (.inr (some (.inl (t))))), some (.inl (nI b)), some (.inl (nI hh)), some (.inl v3), some (.inl v4), o5] [] σ := by
    intro v3 v4 o5
    refine jrun_ok jC X k_MT_mayCastle_72 72 _ _ _ o_MT_mayCastle_72 ?_
    simp only [k_MT_mayCastle_72, jrun, jstep, jldi, jldl, jlda, j1, j2, jl1, jl2, jli, ja1, jbr, jald, jast, jlald, jlast, jalen, jget, jput, jfit, jdup, jdupx, jdupx2, jdup2, jcat, jset1, jset2, jkill, List.getElem?_cons_zero, List.getElem?_cons_succ, List.set_cons_zero, List.set_cons_succ, List.length_cons, List.length_nil, Nat.reduceAdd, Nat.reduceLT, Int32.reduceToNatClampNeg, true_and, and_true, and_self, reduceCtorEq, not_false_eq_true, false_and, and_false, or_false, false_or, true_or, or_true, h0, hf, h1, ht, hm, h25, h26, h27, ehh]
    refine ?_
    refine jk_VB X hR d_MT_mayCastle_79 q_MT_mayCastle_79 m_MT_isClear i_MT_isClear e_MT_isClear (ci := 12) rfl rfl ht h0 (c_MT_isClear M.2.1 E _ _ _ _ _ _ ht h0 hf hm h1 _ _ (hh - 3) (hh - 1) (by rcases hhs with rfl | rfl <;> rfl) (by rcases hhs with rfl | rfl <;> rfl) (by omega) (by omega)) rfl rfl ⟨Nat.le_of_ble_eq_true rfl, Nat.le_of_ble_eq_true rfl⟩ ⟨rfl, rfl⟩ ⟨Nat.le_of_ble_eq_true rfl, Nat.le_of_ble_eq_true rfl⟩ (Nat.le_of_ble_eq_true rfl) (pc' := 82) rfl ?_
    intro vb cb
    exact C82 _ _ _ _
  have C69 : ∀ (v3 : Int32) (v4 : Int32) (o5 : Option jv) (s0 : Int32), jJ E jcl 6 M (jQ E jcl M (fun r σ' n' => poB σ n r σ' n') 0 0) n 0 0 69 [some (.inr (.inr (some (.inl (t))))), some (.inl (nI b)), some (.inl (nI hh)), some (.inl v3), some (.inl v4), o5] [.inl s0] σ := by
    intro v3 v4 o5 s0
    refine jrun_ok jC X k_MT_mayCastle_69 69 _ _ _ o_MT_mayCastle_69 ?_
    simp only [k_MT_mayCastle_69, jrun, jstep, jldi, jldl, jlda, j1, j2, jl1, jl2, jli, ja1, jbr, jald, jast, jlald, jlast, jalen, jget, jput, jfit, jdup, jdupx, jdupx2, jdup2, jcat, jset1, jset2, jkill, List.getElem?_cons_zero, List.getElem?_cons_succ, List.set_cons_zero, List.set_cons_succ, List.length_cons, List.length_nil, Nat.reduceAdd, Nat.reduceLT, Int32.reduceToNatClampNeg, true_and, and_true, and_self, reduceCtorEq, not_false_eq_true, false_and, and_false, or_false, false_or, true_or, or_true, h0, hf, h1, ht, hm, h25, h26, h27, ehh]
    exact C82 _ _ _ _
  have C53 : ∀ (v3 : Int32) (o4 : Option jv) (o5 : Option jv) (s0 : Int32), jJ E jcl 6 M (jQ E jcl M (fun r σ' n' => poB σ n r σ' n') 0 0) n 0 0 53 [some (.inr (.inr (some (.inl (t))))), some (.inl (nI b)), some (.inl (nI hh)), some (.inl v3), o4, o5] [.inl s0] σ := by
    intro v3 o4 o5 s0
    refine jrun_ok jC X k_MT_mayCastle_53 53 _ _ _ o_MT_mayCastle_53 ?_
    simp only [k_MT_mayCastle_53, jrun, jstep, jldi, jldl, jlda, j1, j2, jl1, jl2, jli, ja1, jbr, jald, jast, jlald, jlast, jalen, jget, jput, jfit, jdup, jdupx, jdupx2, jdup2, jcat, jset1, jset2, jkill, List.getElem?_cons_zero, List.getElem?_cons_succ, List.set_cons_zero, List.set_cons_succ, List.length_cons, List.length_nil, Nat.reduceAdd, Nat.reduceLT, Int32.reduceToNatClampNeg, true_and, and_true, and_self, reduceCtorEq, not_false_eq_true, false_and, and_false, or_false, false_or, true_or, or_true, h0, hf, h1, ht, hm, h25, h26, h27, ehh]
    refine ⟨fun h56 => C72 _ _ _, fun h56 => ?_⟩
    refine jk_VB X hR d_MT_mayCastle_66 q_MT_mayCastle_66 m_MT_isClear i_MT_isClear e_MT_isClear (ci := 12) rfl rfl ht h0 (c_MT_isClear M.2.1 E _ _ _ _ _ _ ht h0 hf hm h1 _ _ (hh + 1) (hh + 2) (nI_add hh 1) (nI_add hh 2) (by omega) (by omega)) rfl rfl ⟨Nat.le_of_ble_eq_true rfl, Nat.le_of_ble_eq_true rfl⟩ ⟨rfl, rfl⟩ ⟨Nat.le_of_ble_eq_true rfl, Nat.le_of_ble_eq_true rfl⟩ (Nat.le_of_ble_eq_true rfl) (pc' := 69) rfl ?_
    intro vb cb
    exact C69 _ _ _ _
  have C52 : ∀ (v3 : Int32) (o4 : Option jv) (o5 : Option jv), jJ E jcl 6 M (jQ E jcl M (fun r σ' n' => poB σ n r σ' n') 0 0) n 0 0 52 [some (.inr (.inr (some (.inl (t))))), some (.inl (nI b)), some (.inl (nI hh)), some (.inl v3), o4, o5] [] σ := by
    intro v3 o4 o5
    refine jrun_ok jC X k_MT_mayCastle_52 52 _ _ _ o_MT_mayCastle_52 ?_
    simp only [k_MT_mayCastle_52, jrun, jstep, jldi, jldl, jlda, j1, j2, jl1, jl2, jli, ja1, jbr, jald, jast, jlald, jlast, jalen, jget, jput, jfit, jdup, jdupx, jdupx2, jdup2, jcat, jset1, jset2, jkill, List.getElem?_cons_zero, List.getElem?_cons_succ, List.set_cons_zero, List.set_cons_succ, List.length_cons, List.length_nil, Nat.reduceAdd, Nat.reduceLT, Int32.reduceToNatClampNeg, true_and, and_true, and_self, reduceCtorEq, not_false_eq_true, false_and, and_false, or_false, false_or, true_or, or_true, h0, hf, h1, ht, hm, h25, h26, h27, ehh]
    exact C53 _ _ _ _
  have C40 : ∀ (v3 : Int32) (o4 : Option jv) (o5 : Option jv) (s0 : Int32) (s1 : Int32) (s2 : Int32), jJ E jcl 6 M (jQ E jcl M (fun r σ' n' => poB σ n r σ' n') 0 0) n 0 0 40 [some (.inr (.inr (some (.inl (t))))), some (.inl (nI b)), some (.inl (nI hh)), some (.inl v3), o4, o5] [.inl s2, .inl s1, .inl s0] σ := by
    intro v3 o4 o5 s0 s1 s2
    refine jrun_ok jC X k_MT_mayCastle_40 40 _ _ _ o_MT_mayCastle_40 ?_
    simp only [k_MT_mayCastle_40, jrun, jstep, jldi, jldl, jlda, j1, j2, jl1, jl2, jli, ja1, jbr, jald, jast, jlald, jlast, jalen, jget, jput, jfit, jdup, jdupx, jdupx2, jdup2, jcat, jset1, jset2, jkill, List.getElem?_cons_zero, List.getElem?_cons_succ, List.set_cons_zero, List.set_cons_succ, List.length_cons, List.length_nil, Nat.reduceAdd, Nat.reduceLT, Int32.reduceToNatClampNeg, true_and, and_true, and_self, reduceCtorEq, not_false_eq_true, false_and, and_false, or_false, false_or, true_or, or_true, h0, hf, h1, ht, hm, h25, h26, h27, ehh]
    exact ⟨fun h45 => C52 _ _ _, fun h45 => C53 _ _ _ _⟩
  have C39 : ∀ (v3 : Int32) (o4 : Option jv) (o5 : Option jv) (s0 : Int32) (s1 : Int32), jJ E jcl 6 M (jQ E jcl M (fun r σ' n' => poB σ n r σ' n') 0 0) n 0 0 39 [some (.inr (.inr (some (.inl (t))))), some (.inl (nI b)), some (.inl (nI hh)), some (.inl v3), o4, o5] [.inl s1, .inl s0] σ := by
    intro v3 o4 o5 s0 s1
    refine jrun_ok jC X k_MT_mayCastle_39 39 _ _ _ o_MT_mayCastle_39 ?_
    simp only [k_MT_mayCastle_39, jrun, jstep, jldi, jldl, jlda, j1, j2, jl1, jl2, jli, ja1, jbr, jald, jast, jlald, jlast, jalen, jget, jput, jfit, jdup, jdupx, jdupx2, jdup2, jcat, jset1, jset2, jkill, List.getElem?_cons_zero, List.getElem?_cons_succ, List.set_cons_zero, List.set_cons_succ, List.length_cons, List.length_nil, Nat.reduceAdd, Nat.reduceLT, Int32.reduceToNatClampNeg, true_and, and_true, and_self, reduceCtorEq, not_false_eq_true, false_and, and_false, or_false, false_or, true_or, or_true, h0, hf, h1, ht, hm, h25, h26, h27, ehh]
    exact C40 _ _ _ _ _ _
  have C20 : ∀ (o3 : Option jv) (o4 : Option jv) (o5 : Option jv) (s0 : Int32), jJ E jcl 6 M (jQ E jcl M (fun r σ' n' => poB σ n r σ' n') 0 0) n 0 0 20 [some (.inr (.inr (some (.inl (t))))), some (.inl (nI b)), some (.inl (nI hh)), o3, o4, o5] [.inl s0] σ := by
    intro o3 o4 o5 s0
    refine jrun_ok jC X k_MT_mayCastle_20 20 _ _ _ o_MT_mayCastle_20 ?_
    simp only [k_MT_mayCastle_20, jrun, jstep, jldi, jldl, jlda, j1, j2, jl1, jl2, jli, ja1, jbr, jald, jast, jlald, jlast, jalen, jget, jput, jfit, jdup, jdupx, jdupx2, jdup2, jcat, jset1, jset2, jkill, List.getElem?_cons_zero, List.getElem?_cons_succ, List.set_cons_zero, List.set_cons_succ, List.length_cons, List.length_nil, Nat.reduceAdd, Nat.reduceLT, Int32.reduceToNatClampNeg, true_and, and_true, and_self, reduceCtorEq, not_false_eq_true, false_and, and_false, or_false, false_or, true_or, or_true, h0, hf, h1, ht, hm, h25, h26, h27, ehh]
    exact ⟨fun h32 => C39 _ _ _ _ _, fun h32 => C40 _ _ _ _ _ _⟩
  have C19 : ∀ (o3 : Option jv) (o4 : Option jv) (o5 : Option jv), jJ E jcl 6 M (jQ E jcl M (fun r σ' n' => poB σ n r σ' n') 0 0) n 0 0 19 [some (.inr (.inr (some (.inl (t))))), some (.inl (nI b)), some (.inl (nI hh)), o3, o4, o5] [] σ := by
    intro o3 o4 o5
    refine jrun_ok jC X k_MT_mayCastle_19 19 _ _ _ o_MT_mayCastle_19 ?_
    simp only [k_MT_mayCastle_19, jrun, jstep, jldi, jldl, jlda, j1, j2, jl1, jl2, jli, ja1, jbr, jald, jast, jlald, jlast, jalen, jget, jput, jfit, jdup, jdupx, jdupx2, jdup2, jcat, jset1, jset2, jkill, List.getElem?_cons_zero, List.getElem?_cons_succ, List.set_cons_zero, List.set_cons_succ, List.length_cons, List.length_nil, Nat.reduceAdd, Nat.reduceLT, Int32.reduceToNatClampNeg, true_and, and_true, and_self, reduceCtorEq, not_false_eq_true, false_and, and_false, or_false, false_or, true_or, or_true, h0, hf, h1, ht, hm, h25, h26, h27, ehh]
    exact C20 _ _ _ _
  refine jrun_ok jC X k_MT_mayCastle_0 0 _ _ _ o_MT_mayCastle_0 ?_
  simp only [k_MT_mayCastle_0, jrun, jstep, jldi, jldl, jlda, j1, j2, jl1, jl2, jli, ja1, jbr, jald, jast, jlald, jlast, jalen, jget, jput, jfit, jdup, jdupx, jdupx2, jdup2, jcat, jset1, jset2, jkill, List.getElem?_cons_zero, List.getElem?_cons_succ, List.set_cons_zero, List.set_cons_succ, List.length_cons, List.length_nil, Nat.reduceAdd, Nat.reduceLT, Int32.reduceToNatClampNeg, true_and, and_true, and_self, reduceCtorEq, not_false_eq_true, false_and, and_false, or_false, false_or, true_or, or_true, h0, hf, h1, ht, hm, h25, h26, h27, ehh]
  exact ⟨fun h12 => C19 _ _ _, fun h12 => C20 _ _ _ _⟩
set_option maxRecDepth 100000 in
set_option maxHeartbeats 4000000 in
theorem c_MT_pawnGoes (l : Launch) (E : jE) (σ : Nat → jcell) (n : Nat) (t m : Nat) (fs : List jv) (men : Nat → Int32) (ht : t < n) (h0 : σ t = .inr (12, fs)) (hf : fs[24]? = some (.inr (.inr (some (.inl m))))) (hm : m < n) (h1 : σ m = .inl (.int, 64, .inl men)) (sd ri pa : Int32) (h25 : fs[25]? = some (.inl sd)) (h26 : fs[26]? = some (.inl ri)) (h27 : fs[27]? = some (.inl pa)) (hsd : sd = 0 ∨ sd = 1) (a b : Nat) (ha : a < 64) (hb : b < 64) : jMet l E jcl jtb lw_tbl y_MT_pawnGoes { frames := 1, cells := 0, slots := 0, locals := 40 } [.inr (.inr (some (.inl (t)))), .inl (nI a), .inl (nI b)] σ n (fun r σ' n' => poG (geoP a b = true) σ n r σ' n') := by
  refine jMet_of (hY := rfl) false (fun h => by cases h) (by decide) (Nat.le_of_ble_eq_true rfl) [some (.inr (.inr (some (.inl (t))))), some (.inl (nI a)), some (.inl (nI b)), none, none] rfl ?_
  intro M hl hR X hr
  have C162 : ∀ (v3 : Int32) (s0 : Int32), (v3 = 8 ∨ v3 = -8) → (s0 = 0 ∨ s0 = 1) → (s0 = 1 → geoP a b = true) → jJ E jcl 5 M (jQ E jcl M (fun r σ' n' => poG (geoP a b = true) σ n r σ' n') 0 0) n 0 0 162 [some (.inr (.inr (some (.inl (t))))), some (.inl (nI a)), some (.inl (nI b)), some (.inl v3), some (.inl (nI b - nI b / 8 * 8 - (nI a - nI a / 8 * 8)))] [.inl s0] σ := by
    intro v3 s0 c0 c1 c2
    exact jk_iret X d_MT_pawnGoes_162 hr (bo_n (by assumption)) (Nat.le_refl _) (Nat.le_refl _) ⟨_, (by assumption), (by assumption), rfl, rfl, rfl⟩
  have C161 : ∀ (v3 : Int32), (v3 = 8 ∨ v3 = -8) → jJ E jcl 5 M (jQ E jcl M (fun r σ' n' => poG (geoP a b = true) σ n r σ' n') 0 0) n 0 0 161 [some (.inr (.inr (some (.inl (t))))), some (.inl (nI a)), some (.inl (nI b)), some (.inl v3), some (.inl (nI b - nI b / 8 * 8 - (nI a - nI a / 8 * 8)))] [] σ := by
    intro v3 c0
    refine jrun_ok jC X k_MT_pawnGoes_161 161 _ _ _ o_MT_pawnGoes_161 ?_
    simp only [k_MT_pawnGoes_161, jrun, jstep, jldi, jldl, jlda, j1, j2, jl1, jl2, jli, ja1, jbr, jald, jast, jlald, jlast, jalen, jget, jput, jfit, jdup, jdupx, jdupx2, jdup2, jcat, jset1, jset2, jkill, List.getElem?_cons_zero, List.getElem?_cons_succ, List.set_cons_zero, List.set_cons_succ, List.length_cons, List.length_nil, Nat.reduceAdd, Nat.reduceLT, Int32.reduceToNatClampNeg, true_and, and_true, and_self, reduceCtorEq, not_false_eq_true, false_and, and_false, or_false, false_or, true_or, or_true, h0, hf, h1, ht, hm, h25, h26, h27]
    exact C162 _ _ (by assumption) (by first | assumption | exact Or.inl rfl | exact Or.inr rfl) (by intro h; exact absurd h (by decide))
  have C157 : ∀ (v3 : Int32), (v3 = 8 ∨ v3 = -8) → (nI b / 8 = nI a / 8 + v3 / 8) → ((nI b - nI b / 8 * 8 - (nI a - nI a / 8 * 8)) = 1 ∨ (nI b - nI b / 8 * 8 - (nI a - nI a / 8 * 8)) = -1) → jJ E jcl 5 M (jQ E jcl M (fun r σ' n' => poG (geoP a b = true) σ n r σ' n') 0 0) n 0 0 157 [some (.inr (.inr (some (.inl (t))))), some (.inl (nI a)), some (.inl (nI b)), some (.inl v3), some (.inl (nI b - nI b / 8 * 8 - (nI a - nI a / 8 * 8)))] [] σ := by
    intro v3 c0 c1 c2
    refine jrun_ok jC X k_MT_pawnGoes_157 157 _ _ _ o_MT_pawnGoes_157 ?_
    simp only [k_MT_pawnGoes_157, jrun, jstep, jldi, jldl, jlda, j1, j2, jl1, jl2, jli, ja1, jbr, jald, jast, jlald, jlast, jalen, jget, jput, jfit, jdup, jdupx, jdupx2, jdup2, jcat, jset1, jset2, jkill, List.getElem?_cons_zero, List.getElem?_cons_succ, List.set_cons_zero, List.set_cons_succ, List.length_cons, List.length_nil, Nat.reduceAdd, Nat.reduceLT, Int32.reduceToNatClampNeg, true_and, and_true, and_self, reduceCtorEq, not_false_eq_true, false_and, and_false, or_false, false_or, true_or, or_true, h0, hf, h1, ht, hm, h25, h26, h27]
    exact C162 _ _ (by assumption) (Or.inr rfl) (fun _ => pg_3 _ (up_in (by assumption)) a ha b hb (by assumption) (by assumption))
  have C140 : ∀ (v3 : Int32) (s0 : Int32), (v3 = 8 ∨ v3 = -8) → (nI b / 8 = nI a / 8 + v3 / 8) → ((nI b - nI b / 8 * 8 - (nI a - nI a / 8 * 8)) = 1 ∨ (nI b - nI b / 8 * 8 - (nI a - nI a / 8 * 8)) = -1) → jJ E jcl 5 M (jQ E jcl M (fun r σ' n' => poG (geoP a b = true) σ n r σ' n') 0 0) n 0 0 140 [some (.inr (.inr (some (.inl (t))))), some (.inl (nI a)), some (.inl (nI b)), some (.inl v3), some (.inl (nI b - nI b / 8 * 8 - (nI a - nI a / 8 * 8)))] [.inl s0] σ := by
    intro v3 s0 c0 c1 c2
    refine jrun_ok jC X k_MT_pawnGoes_140 140 _ _ _ o_MT_pawnGoes_140 ?_
    simp only [k_MT_pawnGoes_140, jrun, jstep, jldi, jldl, jlda, j1, j2, jl1, jl2, jli, ja1, jbr, jald, jast, jlald, jlast, jalen, jget, jput, jfit, jdup, jdupx, jdupx2, jdup2, jcat, jset1, jset2, jkill, List.getElem?_cons_zero, List.getElem?_cons_succ, List.set_cons_zero, List.set_cons_succ, List.length_cons, List.length_nil, Nat.reduceAdd, Nat.reduceLT, Int32.reduceToNatClampNeg, true_and, and_true, and_self, reduceCtorEq, not_false_eq_true, false_and, and_false, or_false, false_or, true_or, or_true, h0, hf, h1, ht, hm, h25, h26, h27]
    exact ⟨fun h146 => C157 _ (by assumption) (by assumption) (by first | assumption | exact Or.inl (by assumption) | exact Or.inr (by assumption)), fun h146 => ⟨fun h154 => C161 _ (by first | assumption | omega | (simp_all; done) | decide), fun h154 => C157 _ (by assumption) (by assumption) (by first | assumption | exact Or.inl (by assumption) | exact Or.inr (by assumption))⟩⟩
  have C131 : ∀ (v3 : Int32), (v3 = 8 ∨ v3 = -8) → (nI b / 8 = nI a / 8 + v3 / 8) → ((nI b - nI b / 8 * 8 - (nI a - nI a / 8 * 8)) = 1 ∨ (nI b - nI b / 8 * 8 - (nI a - nI a / 8 * 8)) = -1) → jJ E jcl 5 M (jQ E jcl M (fun r σ' n' => poG (geoP a b = true) σ n r σ' n') 0 0) n 0 0 131 [some (.inr (.inr (some (.inl (t))))), some (.inl (nI a)), some (.inl (nI b)), some (.inl v3), some (.inl (nI b - nI b / 8 * 8 - (nI a - nI a / 8 * 8)))] [] σ := by
    intro v3 c0 c1 c2
    refine jrun_ok jC X k_MT_pawnGoes_131 131 _ _ _ o_MT_pawnGoes_131 ?_
    simp only [k_MT_pawnGoes_131, jrun, jstep, jldi, jldl, jlda, j1, j2, jl1, jl2, jli, ja1, jbr, jald, jast, jlald, jlast, jalen, jget, jput, jfit, jdup, jdupx, jdupx2, jdup2, jcat, jset1, jset2, jkill, List.getElem?_cons_zero, List.getElem?_cons_succ, List.set_cons_zero, List.set_cons_succ, List.length_cons, List.length_nil, Nat.reduceAdd, Nat.reduceLT, Int32.reduceToNatClampNeg, true_and, and_true, and_self, reduceCtorEq, not_false_eq_true, false_and, and_false, or_false, false_or, true_or, or_true, h0, hf, h1, ht, hm, h25, h26, h27]
    refine ⟨(vp_in_nI hb (by omega)), ?_⟩
    refine jk_Si X hR d_MT_pawnGoes_137 q_MT_pawnGoes_137 m_MT_sideOf s_MT_sideOf (c_MT_sideOf M.2.1 E _ _ _) rfl rfl ⟨Nat.le_of_ble_eq_true rfl, Nat.le_of_ble_eq_true rfl⟩ ⟨rfl, rfl⟩ ⟨Nat.le_of_ble_eq_true rfl, Nat.le_of_ble_eq_true rfl⟩ (Nat.le_of_ble_eq_true rfl) (pc' := 140) rfl ?_
    exact C140 _ _ (by assumption) (by assumption) (by first | assumption | exact Or.inl (by assumption) | exact Or.inr (by assumption))
  have C92 : ∀ (v3 : Int32) (o4 : Option jv), (v3 = 8 ∨ v3 = -8) → jJ E jcl 5 M (jQ E jcl M (fun r σ' n' => poG (geoP a b = true) σ n r σ' n') 0 0) n 0 0 92 [some (.inr (.inr (some (.inl (t))))), some (.inl (nI a)), some (.inl (nI b)), some (.inl v3), o4] [] σ := by
    intro v3 o4 c0
    refine jrun_ok jC X k_MT_pawnGoes_92 92 _ _ _ o_MT_pawnGoes_92 ?_
    simp only [k_MT_pawnGoes_92, jrun, jstep, jldi, jldl, jlda, j1, j2, jl1, jl2, jli, ja1, jbr, jald, jast, jlald, jlast, jalen, jget, jput, jfit, jdup, jdupx, jdupx2, jdup2, jcat, jset1, jset2, jkill, List.getElem?_cons_zero, List.getElem?_cons_succ, List.set_cons_zero, List.set_cons_succ, List.length_cons, List.length_nil, Nat.reduceAdd, Nat.reduceLT, Int32.reduceToNatClampNeg, true_and, and_true, and_self, reduceCtorEq, not_false_eq_true, false_and, and_false, or_false, false_or, true_or, or_true, h0, hf, h1, ht, hm, h25, h26, h27]
    exact ⟨by decide, ⟨by decide, ⟨by decide, ⟨by decide, ⟨by decide, ⟨fun h116 => C161 _ (by first | assumption | omega | (simp_all; done) | decide), fun h116 => ⟨fun h122 => C131 _ (by assumption) (by assumption) (by first | assumption | exact Or.inl (by assumption) | exact Or.inr (by assumption)), fun h122 => ⟨fun h128 => C161 _ (by first | assumption | omega | (simp_all; done) | decide), fun h128 => C131 _ (by assumption) (by assumption) (by first | assumption | exact Or.inl (by assumption) | exact Or.inr (by assumption))⟩⟩⟩⟩⟩⟩⟩⟩
  have C91 : ∀ (v3 : Int32) (o4 : Option jv) (s0 : Int32), (v3 = 8 ∨ v3 = -8) → (s0 = 0 ∨ s0 = 1) → (s0 = 1 → geoP a b = true) → jJ E jcl 5 M (jQ E jcl M (fun r σ' n' => poG (geoP a b = true) σ n r σ' n') 0 0) n 0 0 91 [some (.inr (.inr (some (.inl (t))))), some (.inl (nI a)), some (.inl (nI b)), some (.inl v3), o4] [.inl s0] σ := by
    intro v3 o4 s0 c0 c1 c2
    exact jk_iret X d_MT_pawnGoes_91 hr (bo_n (by assumption)) (Nat.le_refl _) (Nat.le_refl _) ⟨_, (by assumption), (by assumption), rfl, rfl, rfl⟩
  have C90 : ∀ (v3 : Int32) (o4 : Option jv), (v3 = 8 ∨ v3 = -8) → jJ E jcl 5 M (jQ E jcl M (fun r σ' n' => poG (geoP a b = true) σ n r σ' n') 0 0) n 0 0 90 [some (.inr (.inr (some (.inl (t))))), some (.inl (nI a)), some (.inl (nI b)), some (.inl v3), o4] [] σ := by
    intro v3 o4 c0
    refine jrun_ok jC X k_MT_pawnGoes_90 90 _ _ _ o_MT_pawnGoes_90 ?_
    simp only [k_MT_pawnGoes_90, jrun, jstep, jldi, jldl, jlda, j1, j2, jl1, jl2, jli, ja1, jbr, jald, jast, jlald, jlast, jalen, jget, jput, jfit, jdup, jdupx, jdupx2, jdup2, jcat, jset1, jset2, jkill, List.getElem?_cons_zero, List.getElem?_cons_succ, List.set_cons_zero, List.set_cons_succ, List.length_cons, List.length_nil, Nat.reduceAdd, Nat.reduceLT, Int32.reduceToNatClampNeg, true_and, and_true, and_self, reduceCtorEq, not_false_eq_true, false_and, and_false, or_false, false_or, true_or, or_true, h0, hf, h1, ht, hm, h25, h26, h27]
    exact C91 _ _ _ (by assumption) (by first | assumption | exact Or.inl rfl | exact Or.inr rfl) (by intro h; exact absurd h (by decide))
  have C63 : ∀ (v3 : Int32) (o4 : Option jv) (s0 : Int32) (s1 : Int32), (v3 = 8 ∨ v3 = -8) → (nI b = nI a + 2 * v3) → jJ E jcl 5 M (jQ E jcl M (fun r σ' n' => poG (geoP a b = true) σ n r σ' n') 0 0) n 0 0 63 [some (.inr (.inr (some (.inl (t))))), some (.inl (nI a)), some (.inl (nI b)), some (.inl v3), o4] [.inl s1, .inl s0] σ := by
    intro v3 o4 s0 s1 c0 c1
    refine jrun_ok jC X k_MT_pawnGoes_63 63 _ _ _ o_MT_pawnGoes_63 ?_
    simp only [k_MT_pawnGoes_63, jrun, jstep, jldi, jldl, jlda, j1, j2, jl1, jl2, jli, ja1, jbr, jald, jast, jlald, jlast, jalen, jget, jput, jfit, jdup, jdupx, jdupx2, jdup2, jcat, jset1, jset2, jkill, List.getElem?_cons_zero, List.getElem?_cons_succ, List.set_cons_zero, List.set_cons_succ, List.length_cons, List.length_nil, Nat.reduceAdd, Nat.reduceLT, Int32.reduceToNatClampNeg, true_and, and_true, and_self, reduceCtorEq, not_false_eq_true, false_and, and_false, or_false, false_or, true_or, or_true, h0, hf, h1, ht, hm, h25, h26, h27]
    exact ⟨fun h63 => C90 _ _ (by first | assumption | omega | (simp_all; done) | decide), fun h63 => ⟨(pg_2 _ (up_in (by assumption)) a ha b hb (by assumption)).2, ⟨fun h74 => C90 _ _ (by first | assumption | omega | (simp_all; done) | decide), fun h74 => ⟨(vp_in_nI hb (by omega)), ⟨fun h83 => C90 _ _ (by first | assumption | omega | (simp_all; done) | decide), fun h83 => C91 _ _ _ (by assumption) (Or.inr rfl) (fun _ => (pg_2 _ (up_in (by assumption)) a ha b hb (by assumption)).1)⟩⟩⟩⟩⟩
  have C61 : ∀ (v3 : Int32) (o4 : Option jv) (s0 : Int32), (v3 = 8 ∨ v3 = -8) → (nI b = nI a + 2 * v3) → jJ E jcl 5 M (jQ E jcl M (fun r σ' n' => poG (geoP a b = true) σ n r σ' n') 0 0) n 0 0 61 [some (.inr (.inr (some (.inl (t))))), some (.inl (nI a)), some (.inl (nI b)), some (.inl v3), o4] [.inl s0] σ := by
    intro v3 o4 s0 c0 c1
    refine jrun_ok jC X k_MT_pawnGoes_61 61 _ _ _ o_MT_pawnGoes_61 ?_
    simp only [k_MT_pawnGoes_61, jrun, jstep, jldi, jldl, jlda, j1, j2, jl1, jl2, jli, ja1, jbr, jald, jast, jlald, jlast, jalen, jget, jput, jfit, jdup, jdupx, jdupx2, jdup2, jcat, jset1, jset2, jkill, List.getElem?_cons_zero, List.getElem?_cons_succ, List.set_cons_zero, List.set_cons_succ, List.length_cons, List.length_nil, Nat.reduceAdd, Nat.reduceLT, Int32.reduceToNatClampNeg, true_and, and_true, and_self, reduceCtorEq, not_false_eq_true, false_and, and_false, or_false, false_or, true_or, or_true, h0, hf, h1, ht, hm, h25, h26, h27]
    exact C63 _ _ _ _ (by assumption) (by assumption)
  have C37 : ∀ (v3 : Int32) (o4 : Option jv), (v3 = 8 ∨ v3 = -8) → jJ E jcl 5 M (jQ E jcl M (fun r σ' n' => poG (geoP a b = true) σ n r σ' n') 0 0) n 0 0 37 [some (.inr (.inr (some (.inl (t))))), some (.inl (nI a)), some (.inl (nI b)), some (.inl v3), o4] [] σ := by
    intro v3 o4 c0
    refine jrun_ok jC X k_MT_pawnGoes_37 37 _ _ _ o_MT_pawnGoes_37 ?_
    simp only [k_MT_pawnGoes_37, jrun, jstep, jldi, jldl, jlda, j1, j2, jl1, jl2, jli, ja1, jbr, jald, jast, jlald, jlast, jalen, jget, jput, jfit, jdup, jdupx, jdupx2, jdup2, jcat, jset1, jset2, jkill, List.getElem?_cons_zero, List.getElem?_cons_succ, List.set_cons_zero, List.set_cons_succ, List.length_cons, List.length_nil, Nat.reduceAdd, Nat.reduceLT, Int32.reduceToNatClampNeg, true_and, and_true, and_self, reduceCtorEq, not_false_eq_true, false_and, and_false, or_false, false_or, true_or, or_true, h0, hf, h1, ht, hm, h25, h26, h27]
    exact ⟨fun h43 => C92 _ _ (by first | assumption | omega | (simp_all; done) | decide), fun h43 => ⟨by decide, ⟨fun h54 => C61 _ _ _ (by assumption) (by assumption), fun h54 => C63 _ _ _ _ (by assumption) (by assumption)⟩⟩⟩
  have C36 : ∀ (v3 : Int32) (o4 : Option jv) (s0 : Int32), (v3 = 8 ∨ v3 = -8) → (s0 = 0 ∨ s0 = 1) → (s0 = 1 → geoP a b = true) → jJ E jcl 5 M (jQ E jcl M (fun r σ' n' => poG (geoP a b = true) σ n r σ' n') 0 0) n 0 0 36 [some (.inr (.inr (some (.inl (t))))), some (.inl (nI a)), some (.inl (nI b)), some (.inl v3), o4] [.inl s0] σ := by
    intro v3 o4 s0 c0 c1 c2
    exact jk_iret X d_MT_pawnGoes_36 hr (bo_n (by assumption)) (Nat.le_refl _) (Nat.le_refl _) ⟨_, (by assumption), (by assumption), rfl, rfl, rfl⟩
  have C35 : ∀ (v3 : Int32) (o4 : Option jv), (v3 = 8 ∨ v3 = -8) → jJ E jcl 5 M (jQ E jcl M (fun r σ' n' => poG (geoP a b = true) σ n r σ' n') 0 0) n 0 0 35 [some (.inr (.inr (some (.inl (t))))), some (.inl (nI a)), some (.inl (nI b)), some (.inl v3), o4] [] σ := by
    intro v3 o4 c0
    refine jrun_ok jC X k_MT_pawnGoes_35 35 _ _ _ o_MT_pawnGoes_35 ?_
    simp only [k_MT_pawnGoes_35, jrun, jstep, jldi, jldl, jlda, j1, j2, jl1, jl2, jli, ja1, jbr, jald, jast, jlald, jlast, jalen, jget, jput, jfit, jdup, jdupx, jdupx2, jdup2, jcat, jset1, jset2, jkill, List.getElem?_cons_zero, List.getElem?_cons_succ, List.set_cons_zero, List.set_cons_succ, List.length_cons, List.length_nil, Nat.reduceAdd, Nat.reduceLT, Int32.reduceToNatClampNeg, true_and, and_true, and_self, reduceCtorEq, not_false_eq_true, false_and, and_false, or_false, false_or, true_or, or_true, h0, hf, h1, ht, hm, h25, h26, h27]
    exact C36 _ _ _ (by assumption) (by first | assumption | exact Or.inl rfl | exact Or.inr rfl) (by intro h; exact absurd h (by decide))
  have C14 : ∀ (o3 : Option jv) (o4 : Option jv) (s0 : Int32), (s0 = 8 ∨ s0 = -8) → jJ E jcl 5 M (jQ E jcl M (fun r σ' n' => poG (geoP a b = true) σ n r σ' n') 0 0) n 0 0 14 [some (.inr (.inr (some (.inl (t))))), some (.inl (nI a)), some (.inl (nI b)), o3, o4] [.inl s0] σ := by
    intro o3 o4 s0 c0
    refine jrun_ok jC X k_MT_pawnGoes_14 14 _ _ _ o_MT_pawnGoes_14 ?_
    simp only [k_MT_pawnGoes_14, jrun, jstep, jldi, jldl, jlda, j1, j2, jl1, jl2, jli, ja1, jbr, jald, jast, jlald, jlast, jalen, jget, jput, jfit, jdup, jdupx, jdupx2, jdup2, jcat, jset1, jset2, jkill, List.getElem?_cons_zero, List.getElem?_cons_succ, List.set_cons_zero, List.set_cons_succ, List.length_cons, List.length_nil, Nat.reduceAdd, Nat.reduceLT, Int32.reduceToNatClampNeg, true_and, and_true, and_self, reduceCtorEq, not_false_eq_true, false_and, and_false, or_false, false_or, true_or, or_true, h0, hf, h1, ht, hm, h25, h26, h27]
    exact ⟨fun h19 => C37 _ _ (by first | assumption | omega | (simp_all; done) | decide), fun h19 => ⟨(vp_in_nI hb (by omega)), ⟨fun h28 => C35 _ _ (by first | assumption | omega | (simp_all; done) | decide), fun h28 => C36 _ _ _ (by first | assumption | exact Or.inl rfl | exact Or.inr rfl) (Or.inr rfl) (fun _ => pg_1 _ (up_in (by assumption)) a ha b hb (by assumption))⟩⟩⟩
  have C12 : ∀ (o3 : Option jv) (o4 : Option jv), jJ E jcl 5 M (jQ E jcl M (fun r σ' n' => poG (geoP a b = true) σ n r σ' n') 0 0) n 0 0 12 [some (.inr (.inr (some (.inl (t))))), some (.inl (nI a)), some (.inl (nI b)), o3, o4] [] σ := by
    intro o3 o4
    refine jrun_ok jC X k_MT_pawnGoes_12 12 _ _ _ o_MT_pawnGoes_12 ?_
    simp only [k_MT_pawnGoes_12, jrun, jstep, jldi, jldl, jlda, j1, j2, jl1, jl2, jli, ja1, jbr, jald, jast, jlald, jlast, jalen, jget, jput, jfit, jdup, jdupx, jdupx2, jdup2, jcat, jset1, jset2, jkill, List.getElem?_cons_zero, List.getElem?_cons_succ, List.set_cons_zero, List.set_cons_succ, List.length_cons, List.length_nil, Nat.reduceAdd, Nat.reduceLT, Int32.reduceToNatClampNeg, true_and, and_true, and_self, reduceCtorEq, not_false_eq_true, false_and, and_false, or_false, false_or, true_or, or_true, h0, hf, h1, ht, hm, h25, h26, h27]
    exact C14 _ _ _ (by first | assumption | exact Or.inl rfl | exact Or.inr rfl)
  refine jrun_ok jC X k_MT_pawnGoes_0 0 _ _ _ o_MT_pawnGoes_0 ?_
  simp only [k_MT_pawnGoes_0, jrun, jstep, jldi, jldl, jlda, j1, j2, jl1, jl2, jli, ja1, jbr, jald, jast, jlald, jlast, jalen, jget, jput, jfit, jdup, jdupx, jdupx2, jdup2, jcat, jset1, jset2, jkill, List.getElem?_cons_zero, List.getElem?_cons_succ, List.set_cons_zero, List.set_cons_succ, List.length_cons, List.length_nil, Nat.reduceAdd, Nat.reduceLT, Int32.reduceToNatClampNeg, true_and, and_true, and_self, reduceCtorEq, not_false_eq_true, false_and, and_false, or_false, false_or, true_or, or_true, h0, hf, h1, ht, hm, h25, h26, h27]
  exact ⟨fun h4 => C12 _ _, fun h4 => C14 _ _ _ (by first | assumption | exact Or.inl rfl | exact Or.inr rfl)⟩
end
section
def sg (x : Int32) : Int32 := if 0 < x then 1 else if x < 0 then -1 else 0
def ali (a b : Nat) : Prop := gfi a b = 0 ∨ gra a b = 0 ∨ gfi a b = gra a b ∨ gfi a b = -gra a b
def aliB (a b : Nat) : Bool := gfi a b == 0 || gra a b == 0 || gfi a b == gra a b || gfi a b == -gra a b
theorem ali_b {a b : Nat} (h : ali a b) : aliB a b = true := by
  unfold ali at h
  unfold aliB
  simp only [Bool.or_eq_true, beq_iff_eq]
  rcases h with h | h | h | h <;> simp [h]
def geoN (a b : Nat) : Bool := a != b && (aliB a b || gfi a b * gfi a b + gra a b * gra a b == 5)
def gdist (a b : Nat) : Nat := (if a % 8 ≤ b % 8 then b % 8 - a % 8 else a % 8 - b % 8) + (if a / 8 ≤ b / 8 then b / 8 - a / 8 else a / 8 - b / 8)
/-- one step along a line towards its end -/
def rayB (c b : Nat) : Bool := let s := (mt_step (nI c) (sg (gfi c b)) (sg (gra c b))).toNatClampNeg
  decide (s < 64) && decide (mt_step (nI c) (sg (gfi c b)) (sg (gra c b)) = nI s) && (s == b || (s != b && aliB s b && sg (gfi s b) == sg (gfi c b) && sg (gra s b) == sg (gra c b))) && decide (gdist s b < gdist c b)
set_option maxRecDepth 100000 in
theorem ray_ok : ∀ c, c < 64 → ∀ b, b < 64 → c ≠ b → aliB c b = true → rayB c b = true := by decide +kernel
set_option maxRecDepth 100000 in
theorem kg_ok : ∀ a, a < 64 → ∀ b, b < 64 → a ≠ b → gfi a b * gfi a b + gra a b * gra a b < 3 → aliB a b = true := by decide +kernel
theorem nI_ne {a b : Nat} (ha : a < 64) (hb : b < 64) (h : ¬ nI a = nI b) : a ≠ b := fun e => h (by rw [e])
theorem geoN_ali {a b : Nat} (h : a ≠ b) (hl : aliB a b = true) : geoN a b = true := by
  unfold geoN
  simp [h, hl]
theorem geoN_kn {a b : Nat} (h : a ≠ b) (hl : gfi a b * gfi a b + gra a b * gra a b = 5) : geoN a b = true := by
  unfold geoN
  simp [h, hl]
theorem ali_of {a b : Nat} {s : Int32} (h : s = 0 ∨ gfi a b = 0 ∨ gra a b = 0) (hs : ¬ s = 0) : ali a b := by
  rcases h with h | h | h
  · exact absurd h hs
  · exact Or.inl h
  · exact Or.inr (Or.inl h)
theorem sg_p {x : Int32} (h : ¬ x ≤ 0) : 1 = sg x := by
  unfold sg
  rw [if_pos (Int32.not_le.mp h)]
theorem sg_n {x : Int32} (h : x ≤ 0) (h2 : ¬ 0 ≤ x) : -1 = sg x := by
  unfold sg
  rw [if_neg (Int32.not_lt.mpr h), if_pos (Int32.not_le.mp h2)]
theorem sg_z {x : Int32} (h : x ≤ 0) (h2 : 0 ≤ x) : 0 = sg x := by
  unfold sg
  rw [if_neg (Int32.not_lt.mpr h), if_neg (Int32.not_lt.mpr h2)]
/-- a square on the line from a to b, behind a -/
def onray (a b : Nat) (s : Int32) (d : Nat) : Prop := ∃ c : Nat, c < 64 ∧ s = nI c ∧ (c = b ∨ (c ≠ b ∧ aliB c b = true ∧ sg (gfi c b) = sg (gfi a b) ∧ sg (gra c b) = sg (gra a b))) ∧ gdist c b < d
theorem ray_go {a b c : Nat} (hc : c < 64) (hb : b < 64) (hcb : c ≠ b) (hl : aliB c b = true) (h1 : sg (gfi c b) = sg (gfi a b)) (h2 : sg (gra c b) = sg (gra a b)) : onray a b (mt_step (nI c) (sg (gfi a b)) (sg (gra a b))) (gdist c b) := by
  have h := ray_ok c hc b hb hcb hl
  unfold rayB at h
  simp only [Bool.and_eq_true, Bool.or_eq_true, decide_eq_true_eq, beq_iff_eq, bne_iff_ne, ne_eq] at h
  rw [h1, h2] at h
  obtain ⟨⟨⟨q1, q2⟩, q3⟩, q4⟩ := h
  refine ⟨_, q1, q2, ?_, q4⟩
  rcases q3 with q3 | ⟨⟨⟨q5, q6⟩, q7⟩, q8⟩
  · exact Or.inl q3
  · exact Or.inr ⟨q5, q6, q7, q8⟩
theorem gdist_lt {a b : Nat} (ha : a < 64) (hb : b < 64) : gdist a b < 99 := by
  unfold gdist
  split <;> split <;> omega
theorem ray_first {a b : Nat} (ha : a < 64) (hb : b < 64) (h : a ≠ b) (hl : ali a b) : onray a b (mt_step (nI a) (sg (gfi a b)) (sg (gra a b))) 99 := by
  obtain ⟨c, h1, h2, h3, h4⟩ := ray_go (a := a) ha hb h (ali_b hl) rfl rfl
  exact ⟨c, h1, h2, h3, Nat.lt_trans h4 (gdist_lt ha hb)⟩
set_option maxRecDepth 100000 in
set_option maxHeartbeats 4000000 in
/-- whether a man goes from a square to another: where it does, the squares lie so -/
theorem c_MT_goes (l : Launch) (E : jE) (σ : Nat → jcell) (n : Nat) (t m : Nat) (fs : List jv) (men : Nat → Int32) (ht : t < n) (h0 : σ t = .inr (12, fs)) (hf : fs[24]? = some (.inr (.inr (some (.inl m))))) (hm : m < n) (h1 : σ m = .inl (.int, 64, .inl men)) (sd ri pa : Int32) (h25 : fs[25]? = some (.inl sd)) (h26 : fs[26]? = some (.inl ri)) (h27 : fs[27]? = some (.inl pa)) (hsd : sd = 0 ∨ sd = 1) (a b : Nat) (ha : a < 64) (hb : b < 64) : jMet l E jcl jtb lw_tbl y_MT_goes { frames := 4, cells := 0, slots := 0, locals := 180 } [.inr (.inr (some (.inl (t)))), .inl (nI a), .inl (nI b)] σ n (fun r σ' n' => poG (if men a &&& 7 = 1 then geoP a b = true else geoN a b = true) σ n r σ' n') := by
  refine jMet_of (hY := rfl) false (fun h => by cases h) (by decide) (Nat.le_of_ble_eq_true rfl) [some (.inr (.inr (some (.inl (t))))), some (.inl (nI a)), some (.inl (nI b)), none, none, none, none, none, none, none, none] rfl ?_
  intro M hl hR X hr
  have hca : (nI a).toNatClampNeg = a := nI_clamp (by omega)
  have hcb : (nI b).toNatClampNeg = b := nI_clamp (by omega)
  have efi : nI b - nI b / 8 * 8 - (nI a - nI a / 8 * 8) = gfi a b := rfl
  have era : nI b / 8 - nI a / 8 = gra a b := rfl
  have C315 : ∀ (v7 : Int32) (v10 : Int32) (s0 : Int32), (¬ nI a = nI b) → (¬ men a &&& 7 = 1) → (ali a b) → (s0 = 0 ∨ s0 = 1) → (s0 = 1 → (if men a &&& 7 = 1 then geoP a b = true else geoN a b = true)) → jJ E jcl 11 M (jQ E jcl M (fun r σ' n' => poG (if men a &&& 7 = 1 then geoP a b = true else geoN a b = true) σ n r σ' n') 0 0) n 0 0 315 [some (.inr (.inr (some (.inl (t))))), some (.inl (nI a)), some (.inl (nI b)), some (.inl (men a &&& 7)), some (.inl (gfi a b)), some (.inl (gra a b)), some (.inl ((gfi a b) * (gfi a b) + (gra a b) * (gra a b))), some (.inl v7), some (.inl (sg (gfi a b))), some (.inl (sg (gra a b))), some (.inl v10)] [.inl s0] σ := by
    intro v7 v10 s0 c0 c1 c2 c3 c4
    exact jk_iret X d_MT_goes_315 hr (bo_n (by assumption)) (Nat.le_refl _) (Nat.le_refl _) ⟨_, (by assumption), (by assumption), rfl, rfl, rfl⟩
  have C314 : ∀ (v7 : Int32) (v10 : Int32), (¬ nI a = nI b) → (¬ men a &&& 7 = 1) → (ali a b) → jJ E jcl 11 M (jQ E jcl M (fun r σ' n' => poG (if men a &&& 7 = 1 then geoP a b = true else geoN a b = true) σ n r σ' n') 0 0) n 0 0 314 [some (.inr (.inr (some (.inl (t))))), some (.inl (nI a)), some (.inl (nI b)), some (.inl (men a &&& 7)), some (.inl (gfi a b)), some (.inl (gra a b)), some (.inl ((gfi a b) * (gfi a b) + (gra a b) * (gra a b))), some (.inl v7), some (.inl (sg (gfi a b))), some (.inl (sg (gra a b))), some (.inl v10)] [] σ := by
    intro v7 v10 c0 c1 c2
    refine jrun_ok jC X k_MT_goes_314 314 _ _ _ o_MT_goes_314 ?_
    simp only [k_MT_goes_314, jrun, jstep, jldi, jldl, jlda, j1, j2, jl1, jl2, jli, ja1, jbr, jald, jast, jlald, jlast, jalen, jget, jput, jfit, jdup, jdupx, jdupx2, jdup2, jcat, jset1, jset2, jkill, List.getElem?_cons_zero, List.getElem?_cons_succ, List.set_cons_zero, List.set_cons_succ, List.length_cons, List.length_nil, Nat.reduceAdd, Nat.reduceLT, Int32.reduceToNatClampNeg, true_and, and_true, and_self, reduceCtorEq, not_false_eq_true, false_and, and_false, or_false, false_or, true_or, or_true, h0, hf, h1, ht, hm, h25, h26, h27, hca, hcb, efi, era]
    exact C315 _ _ _ (by assumption) (by assumption) (by assumption) (by first | assumption | exact Or.inl rfl | exact Or.inr rfl) (by intro h; exact absurd h (by decide))
  have C304 : ∀ (v7 : Int32) (v10 : Int32), (¬ nI a = nI b) → (¬ men a &&& 7 = 1) → (ali a b) → jJ E jcl 11 M (jQ E jcl M (fun r σ' n' => poG (if men a &&& 7 = 1 then geoP a b = true else geoN a b = true) σ n r σ' n') 0 0) n 0 0 304 [some (.inr (.inr (some (.inl (t))))), some (.inl (nI a)), some (.inl (nI b)), some (.inl (men a &&& 7)), some (.inl (gfi a b)), some (.inl (gra a b)), some (.inl ((gfi a b) * (gfi a b) + (gra a b) * (gra a b))), some (.inl v7), some (.inl (sg (gfi a b))), some (.inl (sg (gra a b))), some (.inl v10)] [] σ := by
    intro v7 v10 c0 c1 c2
    refine jrun_ok jC X k_MT_goes_304 304 _ _ _ o_MT_goes_304 ?_
    simp only [k_MT_goes_304, jrun, jstep, jldi, jldl, jlda, j1, j2, jl1, jl2, jli, ja1, jbr, jald, jast, jlald, jlast, jalen, jget, jput, jfit, jdup, jdupx, jdupx2, jdup2, jcat, jset1, jset2, jkill, List.getElem?_cons_zero, List.getElem?_cons_succ, List.set_cons_zero, List.set_cons_succ, List.length_cons, List.length_nil, Nat.reduceAdd, Nat.reduceLT, Int32.reduceToNatClampNeg, true_and, and_true, and_self, reduceCtorEq, not_false_eq_true, false_and, and_false, or_false, false_or, true_or, or_true, h0, hf, h1, ht, hm, h25, h26, h27, hca, hcb, efi, era]
    exact ⟨fun h307 => C314 _ _ (by assumption) (by assumption) (by assumption), fun h307 => C315 _ _ _ (by assumption) (by assumption) (by assumption) (Or.inr rfl) (fun _ => by rw [if_neg (by assumption)]; exact geoN_ali (nI_ne ha hb (by assumption)) (ali_b (by assumption)))⟩
  have hloop : ∀ (d : Nat) (v7 s : Int32), (¬ nI a = nI b) → (¬ men a &&& 7 = 1) → (ali a b) → onray a b s d → jJ E jcl 11 M (jQ E jcl M (fun r σ' n' => poG (if men a &&& 7 = 1 then geoP a b = true else geoN a b = true) σ n r σ' n') 0 0) n 0 0 274 [some (.inr (.inr (some (.inl (t))))), some (.inl (nI a)), some (.inl (nI b)), some (.inl (men a &&& 7)), some (.inl (gfi a b)), some (.inl (gra a b)), some (.inl ((gfi a b) * (gfi a b) + (gra a b) * (gra a b))), some (.inl v7), some (.inl (sg (gfi a b))), some (.inl (sg (gra a b))), some (.inl s)] [] σ := by
    intro d
    induction d with
    | zero =>
      intro v7 s c0 c1 c2 hs
      obtain ⟨c, -, -, -, h⟩ := hs
      omega
    | succ d ih =>
      intro v7 s c0 c1 c2 hs
      obtain ⟨c, hc, rfl, hcc, hcd⟩ := hs
      refine jrun_ok jC X k_MT_goes_274 274 _ _ _ o_MT_goes_274 ?_
      simp only [k_MT_goes_274, jrun, jstep, jldi, jldl, jlda, j1, j2, jl1, jl2, jli, ja1, jbr, jald, jast, jlald, jlast, jalen, jget, jput, jfit, jdup, jdupx, jdupx2, jdup2, jcat, jset1, jset2, jkill, List.getElem?_cons_zero, List.getElem?_cons_succ, List.set_cons_zero, List.set_cons_succ, List.length_cons, List.length_nil, Nat.reduceAdd, Nat.reduceLT, Int32.reduceToNatClampNeg, true_and, and_true, and_self, reduceCtorEq, not_false_eq_true, false_and, and_false, or_false, false_or, true_or, or_true, h0, hf, h1, ht, hm, h25, h26, h27, hca, hcb, efi, era]
      refine ⟨fun h277 => C304 _ _ c0 c1 c2, fun h277 => ⟨(vp_in_nI hc (by omega)), ⟨fun h287 => C304 _ _ c0 c1 c2, fun h287 => ?_⟩⟩⟩
      refine jk_Si X hR d_MT_goes_296 q_MT_goes_296 m_MT_step s_MT_step (c_MT_step M.2.1 E _ _ _ _ _) rfl rfl ⟨Nat.le_of_ble_eq_true rfl, Nat.le_of_ble_eq_true rfl⟩ ⟨rfl, rfl⟩ ⟨Nat.le_of_ble_eq_true rfl, Nat.le_of_ble_eq_true rfl⟩ (Nat.le_of_ble_eq_true rfl) (pc' := 299) rfl ?_
      have hcb2 : c ≠ b := nI_ne hc hb (by assumption)
      obtain ⟨h5, h6, h7, h8⟩ := hcc.resolve_left hcb2
      refine jrun_ok jC X k_MT_goes_299 299 _ _ _ o_MT_goes_299 ?_
      simp only [k_MT_goes_299, jrun, jstep, jldi, jldl, jlda, j1, j2, jl1, jl2, jli, ja1, jbr, jald, jast, jlald, jlast, jalen, jget, jput, jfit, jdup, jdupx, jdupx2, jdup2, jcat, jset1, jset2, jkill, List.getElem?_cons_zero, List.getElem?_cons_succ, List.set_cons_zero, List.set_cons_succ, List.length_cons, List.length_nil, Nat.reduceAdd, Nat.reduceLT, Int32.reduceToNatClampNeg, true_and, and_true, and_self, reduceCtorEq, not_false_eq_true, false_and, and_false, or_false, false_or, true_or, or_true]
      obtain ⟨c', q1, q2, q3, q4⟩ := ray_go (a := a) hc hb hcb2 h6 h7 h8
      exact ih _ _ c0 c1 c2 ⟨c', q1, q2, q3, by omega⟩
  have C274 : ∀ (v7 v10 : Int32), (¬ nI a = nI b) → (¬ men a &&& 7 = 1) → (ali a b) → onray a b v10 99 → jJ E jcl 11 M (jQ E jcl M (fun r σ' n' => poG (if men a &&& 7 = 1 then geoP a b = true else geoN a b = true) σ n r σ' n') 0 0) n 0 0 274 [some (.inr (.inr (some (.inl (t))))), some (.inl (nI a)), some (.inl (nI b)), some (.inl (men a &&& 7)), some (.inl (gfi a b)), some (.inl (gra a b)), some (.inl ((gfi a b) * (gfi a b) + (gra a b) * (gra a b))), some (.inl v7), some (.inl (sg (gfi a b))), some (.inl (sg (gra a b))), some (.inl v10)] [] σ := fun v7 v10 => hloop 99 v7 v10
  have C272 : ∀ (v7 : Int32) (o10 : Option jv) (s0 : Int32), (¬ nI a = nI b) → (¬ men a &&& 7 = 1) → (ali a b) → (onray a b s0 99) → jJ E jcl 11 M (jQ E jcl M (fun r σ' n' => poG (if men a &&& 7 = 1 then geoP a b = true else geoN a b = true) σ n r σ' n') 0 0) n 0 0 272 [some (.inr (.inr (some (.inl (t))))), some (.inl (nI a)), some (.inl (nI b)), some (.inl (men a &&& 7)), some (.inl (gfi a b)), some (.inl (gra a b)), some (.inl ((gfi a b) * (gfi a b) + (gra a b) * (gra a b))), some (.inl v7), some (.inl (sg (gfi a b))), some (.inl (sg (gra a b))), o10] [.inl s0] σ := by
    intro v7 o10 s0 c0 c1 c2 c3
    refine jrun_ok jC X k_MT_goes_272 272 _ _ _ o_MT_goes_272 ?_
    simp only [k_MT_goes_272, jrun, jstep, jldi, jldl, jlda, j1, j2, jl1, jl2, jli, ja1, jbr, jald, jast, jlald, jlast, jalen, jget, jput, jfit, jdup, jdupx, jdupx2, jdup2, jcat, jset1, jset2, jkill, List.getElem?_cons_zero, List.getElem?_cons_succ, List.set_cons_zero, List.set_cons_succ, List.length_cons, List.length_nil, Nat.reduceAdd, Nat.reduceLT, Int32.reduceToNatClampNeg, true_and, and_true, and_self, reduceCtorEq, not_false_eq_true, false_and, and_false, or_false, false_or, true_or, or_true, h0, hf, h1, ht, hm, h25, h26, h27, hca, hcb, efi, era]
    exact C274 _ _ (by assumption) (by assumption) (by assumption) (by assumption)
  have C262 : ∀ (v7 : Int32) (o9 : Option jv) (o10 : Option jv) (s0 : Int32), (s0 = sg (gra a b)) → (¬ nI a = nI b) → (¬ men a &&& 7 = 1) → (ali a b) → jJ E jcl 11 M (jQ E jcl M (fun r σ' n' => poG (if men a &&& 7 = 1 then geoP a b = true else geoN a b = true) σ n r σ' n') 0 0) n 0 0 262 [some (.inr (.inr (some (.inl (t))))), some (.inl (nI a)), some (.inl (nI b)), some (.inl (men a &&& 7)), some (.inl (gfi a b)), some (.inl (gra a b)), some (.inl ((gfi a b) * (gfi a b) + (gra a b) * (gra a b))), some (.inl v7), some (.inl (sg (gfi a b))), o9, o10] [.inl s0] σ := by
    intro v7 o9 o10 s0 c0 c1 c2 c3
    subst c0
    refine jrun_ok jC X k_MT_goes_262 262 _ _ _ o_MT_goes_262 ?_
    simp only [k_MT_goes_262, jrun, jstep, jldi, jldl, jlda, j1, j2, jl1, jl2, jli, ja1, jbr, jald, jast, jlald, jlast, jalen, jget, jput, jfit, jdup, jdupx, jdupx2, jdup2, jcat, jset1, jset2, jkill, List.getElem?_cons_zero, List.getElem?_cons_succ, List.set_cons_zero, List.set_cons_succ, List.length_cons, List.length_nil, Nat.reduceAdd, Nat.reduceLT, Int32.reduceToNatClampNeg, true_and, and_true, and_self, reduceCtorEq, not_false_eq_true, false_and, and_false, or_false, false_or, true_or, or_true, h0, hf, h1, ht, hm, h25, h26, h27, hca, hcb, efi, era]
    refine ?_
    refine jk_Si X hR d_MT_goes_269 q_MT_goes_269 m_MT_step s_MT_step (c_MT_step M.2.1 E _ _ _ _ _) rfl rfl ⟨Nat.le_of_ble_eq_true rfl, Nat.le_of_ble_eq_true rfl⟩ ⟨rfl, rfl⟩ ⟨Nat.le_of_ble_eq_true rfl, Nat.le_of_ble_eq_true rfl⟩ (Nat.le_of_ble_eq_true rfl) (pc' := 272) rfl ?_
    exact C272 _ _ _ (by assumption) (by assumption) (by assumption) (ray_first ha hb (nI_ne ha hb (by assumption)) (by assumption))
  have C261 : ∀ (v7 : Int32) (o9 : Option jv) (o10 : Option jv), (¬ nI a = nI b) → (¬ men a &&& 7 = 1) → (ali a b) → (gra a b ≤ 0) → (0 ≤ gra a b) → jJ E jcl 11 M (jQ E jcl M (fun r σ' n' => poG (if men a &&& 7 = 1 then geoP a b = true else geoN a b = true) σ n r σ' n') 0 0) n 0 0 261 [some (.inr (.inr (some (.inl (t))))), some (.inl (nI a)), some (.inl (nI b)), some (.inl (men a &&& 7)), some (.inl (gfi a b)), some (.inl (gra a b)), some (.inl ((gfi a b) * (gfi a b) + (gra a b) * (gra a b))), some (.inl v7), some (.inl (sg (gfi a b))), o9, o10] [] σ := by
    intro v7 o9 o10 c0 c1 c2 c3 c4
    refine jrun_ok jC X k_MT_goes_261 261 _ _ _ o_MT_goes_261 ?_
    simp only [k_MT_goes_261, jrun, jstep, jldi, jldl, jlda, j1, j2, jl1, jl2, jli, ja1, jbr, jald, jast, jlald, jlast, jalen, jget, jput, jfit, jdup, jdupx, jdupx2, jdup2, jcat, jset1, jset2, jkill, List.getElem?_cons_zero, List.getElem?_cons_succ, List.set_cons_zero, List.set_cons_succ, List.length_cons, List.length_nil, Nat.reduceAdd, Nat.reduceLT, Int32.reduceToNatClampNeg, true_and, and_true, and_self, reduceCtorEq, not_false_eq_true, false_and, and_false, or_false, false_or, true_or, or_true, h0, hf, h1, ht, hm, h25, h26, h27, hca, hcb, efi, era]
    exact C262 _ _ _ _ (by first | exact sg_p (by assumption) | exact sg_n (by assumption) (by assumption) | exact sg_z (by assumption) (by assumption)) (by assumption) (by assumption) (by assumption)
  have C252 : ∀ (v7 : Int32) (o9 : Option jv) (o10 : Option jv), (¬ nI a = nI b) → (¬ men a &&& 7 = 1) → (ali a b) → (gra a b ≤ 0) → jJ E jcl 11 M (jQ E jcl M (fun r σ' n' => poG (if men a &&& 7 = 1 then geoP a b = true else geoN a b = true) σ n r σ' n') 0 0) n 0 0 252 [some (.inr (.inr (some (.inl (t))))), some (.inl (nI a)), some (.inl (nI b)), some (.inl (men a &&& 7)), some (.inl (gfi a b)), some (.inl (gra a b)), some (.inl ((gfi a b) * (gfi a b) + (gra a b) * (gra a b))), some (.inl v7), some (.inl (sg (gfi a b))), o9, o10] [] σ := by
    intro v7 o9 o10 c0 c1 c2 c3
    refine jrun_ok jC X k_MT_goes_252 252 _ _ _ o_MT_goes_252 ?_
    simp only [k_MT_goes_252, jrun, jstep, jldi, jldl, jlda, j1, j2, jl1, jl2, jli, ja1, jbr, jald, jast, jlald, jlast, jalen, jget, jput, jfit, jdup, jdupx, jdupx2, jdup2, jcat, jset1, jset2, jkill, List.getElem?_cons_zero, List.getElem?_cons_succ, List.set_cons_zero, List.set_cons_succ, List.length_cons, List.length_nil, Nat.reduceAdd, Nat.reduceLT, Int32.reduceToNatClampNeg, true_and, and_true, and_self, reduceCtorEq, not_false_eq_true, false_and, and_false, or_false, false_or, true_or, or_true, h0, hf, h1, ht, hm, h25, h26, h27, hca, hcb, efi, era]
    exact ⟨fun h254 => C261 _ _ _ (by assumption) (by assumption) (by assumption) (by assumption) (by assumption), fun h254 => C262 _ _ _ _ (by first | exact sg_p (by assumption) | exact sg_n (by assumption) (by assumption) | exact sg_z (by assumption) (by assumption)) (by assumption) (by assumption) (by assumption)⟩
  have C241 : ∀ (v7 : Int32) (o8 : Option jv) (o9 : Option jv) (o10 : Option jv) (s0 : Int32), (s0 = sg (gfi a b)) → (¬ nI a = nI b) → (¬ men a &&& 7 = 1) → (ali a b) → jJ E jcl 11 M (jQ E jcl M (fun r σ' n' => poG (if men a &&& 7 = 1 then geoP a b = true else geoN a b = true) σ n r σ' n') 0 0) n 0 0 241 [some (.inr (.inr (some (.inl (t))))), some (.inl (nI a)), some (.inl (nI b)), some (.inl (men a &&& 7)), some (.inl (gfi a b)), some (.inl (gra a b)), some (.inl ((gfi a b) * (gfi a b) + (gra a b) * (gra a b))), some (.inl v7), o8, o9, o10] [.inl s0] σ := by
    intro v7 o8 o9 o10 s0 c0 c1 c2 c3
    subst c0
    refine jrun_ok jC X k_MT_goes_241 241 _ _ _ o_MT_goes_241 ?_
    simp only [k_MT_goes_241, jrun, jstep, jldi, jldl, jlda, j1, j2, jl1, jl2, jli, ja1, jbr, jald, jast, jlald, jlast, jalen, jget, jput, jfit, jdup, jdupx, jdupx2, jdup2, jcat, jset1, jset2, jkill, List.getElem?_cons_zero, List.getElem?_cons_succ, List.set_cons_zero, List.set_cons_succ, List.length_cons, List.length_nil, Nat.reduceAdd, Nat.reduceLT, Int32.reduceToNatClampNeg, true_and, and_true, and_self, reduceCtorEq, not_false_eq_true, false_and, and_false, or_false, false_or, true_or, or_true, h0, hf, h1, ht, hm, h25, h26, h27, hca, hcb, efi, era]
    exact ⟨fun h245 => C252 _ _ _ (by assumption) (by assumption) (by assumption) (by assumption), fun h245 => C262 _ _ _ _ (by first | exact sg_p (by assumption) | exact sg_n (by assumption) (by assumption) | exact sg_z (by assumption) (by assumption)) (by assumption) (by assumption) (by assumption)⟩
  have C240 : ∀ (v7 : Int32) (o8 : Option jv) (o9 : Option jv) (o10 : Option jv), (¬ nI a = nI b) → (¬ men a &&& 7 = 1) → (ali a b) → (gfi a b ≤ 0) → (0 ≤ gfi a b) → jJ E jcl 11 M (jQ E jcl M (fun r σ' n' => poG (if men a &&& 7 = 1 then geoP a b = true else geoN a b = true) σ n r σ' n') 0 0) n 0 0 240 [some (.inr (.inr (some (.inl (t))))), some (.inl (nI a)), some (.inl (nI b)), some (.inl (men a &&& 7)), some (.inl (gfi a b)), some (.inl (gra a b)), some (.inl ((gfi a b) * (gfi a b) + (gra a b) * (gra a b))), some (.inl v7), o8, o9, o10] [] σ := by
    intro v7 o8 o9 o10 c0 c1 c2 c3 c4
    refine jrun_ok jC X k_MT_goes_240 240 _ _ _ o_MT_goes_240 ?_
    simp only [k_MT_goes_240, jrun, jstep, jldi, jldl, jlda, j1, j2, jl1, jl2, jli, ja1, jbr, jald, jast, jlald, jlast, jalen, jget, jput, jfit, jdup, jdupx, jdupx2, jdup2, jcat, jset1, jset2, jkill, List.getElem?_cons_zero, List.getElem?_cons_succ, List.set_cons_zero, List.set_cons_succ, List.length_cons, List.length_nil, Nat.reduceAdd, Nat.reduceLT, Int32.reduceToNatClampNeg, true_and, and_true, and_self, reduceCtorEq, not_false_eq_true, false_and, and_false, or_false, false_or, true_or, or_true, h0, hf, h1, ht, hm, h25, h26, h27, hca, hcb, efi, era]
    exact C241 _ _ _ _ _ (by first | exact sg_p (by assumption) | exact sg_n (by assumption) (by assumption) | exact sg_z (by assumption) (by assumption)) (by assumption) (by assumption) (by assumption)
  have C231 : ∀ (v7 : Int32) (o8 : Option jv) (o9 : Option jv) (o10 : Option jv), (¬ nI a = nI b) → (¬ men a &&& 7 = 1) → (ali a b) → (gfi a b ≤ 0) → jJ E jcl 11 M (jQ E jcl M (fun r σ' n' => poG (if men a &&& 7 = 1 then geoP a b = true else geoN a b = true) σ n r σ' n') 0 0) n 0 0 231 [some (.inr (.inr (some (.inl (t))))), some (.inl (nI a)), some (.inl (nI b)), some (.inl (men a &&& 7)), some (.inl (gfi a b)), some (.inl (gra a b)), some (.inl ((gfi a b) * (gfi a b) + (gra a b) * (gra a b))), some (.inl v7), o8, o9, o10] [] σ := by
    intro v7 o8 o9 o10 c0 c1 c2 c3
    refine jrun_ok jC X k_MT_goes_231 231 _ _ _ o_MT_goes_231 ?_
    simp only [k_MT_goes_231, jrun, jstep, jldi, jldl, jlda, j1, j2, jl1, jl2, jli, ja1, jbr, jald, jast, jlald, jlast, jalen, jget, jput, jfit, jdup, jdupx, jdupx2, jdup2, jcat, jset1, jset2, jkill, List.getElem?_cons_zero, List.getElem?_cons_succ, List.set_cons_zero, List.set_cons_succ, List.length_cons, List.length_nil, Nat.reduceAdd, Nat.reduceLT, Int32.reduceToNatClampNeg, true_and, and_true, and_self, reduceCtorEq, not_false_eq_true, false_and, and_false, or_false, false_or, true_or, or_true, h0, hf, h1, ht, hm, h25, h26, h27, hca, hcb, efi, era]
    exact ⟨fun h233 => C240 _ _ _ _ (by assumption) (by assumption) (by assumption) (by assumption) (by assumption), fun h233 => C241 _ _ _ _ _ (by first | exact sg_p (by assumption) | exact sg_n (by assumption) (by assumption) | exact sg_z (by assumption) (by assumption)) (by assumption) (by assumption) (by assumption)⟩
  have C222 : ∀ (v7 : Int32) (o8 : Option jv) (o9 : Option jv) (o10 : Option jv), (¬ nI a = nI b) → (¬ men a &&& 7 = 1) → (ali a b) → jJ E jcl 11 M (jQ E jcl M (fun r σ' n' => poG (if men a &&& 7 = 1 then geoP a b = true else geoN a b = true) σ n r σ' n') 0 0) n 0 0 222 [some (.inr (.inr (some (.inl (t))))), some (.inl (nI a)), some (.inl (nI b)), some (.inl (men a &&& 7)), some (.inl (gfi a b)), some (.inl (gra a b)), some (.inl ((gfi a b) * (gfi a b) + (gra a b) * (gra a b))), some (.inl v7), o8, o9, o10] [] σ := by
    intro v7 o8 o9 o10 c0 c1 c2
    refine jrun_ok jC X k_MT_goes_222 222 _ _ _ o_MT_goes_222 ?_
    simp only [k_MT_goes_222, jrun, jstep, jldi, jldl, jlda, j1, j2, jl1, jl2, jli, ja1, jbr, jald, jast, jlald, jlast, jalen, jget, jput, jfit, jdup, jdupx, jdupx2, jdup2, jcat, jset1, jset2, jkill, List.getElem?_cons_zero, List.getElem?_cons_succ, List.set_cons_zero, List.set_cons_succ, List.length_cons, List.length_nil, Nat.reduceAdd, Nat.reduceLT, Int32.reduceToNatClampNeg, true_and, and_true, and_self, reduceCtorEq, not_false_eq_true, false_and, and_false, or_false, false_or, true_or, or_true, h0, hf, h1, ht, hm, h25, h26, h27, hca, hcb, efi, era]
    exact ⟨fun h224 => C231 _ _ _ _ (by assumption) (by assumption) (by assumption) (by assumption), fun h224 => C241 _ _ _ _ _ (by first | exact sg_p (by assumption) | exact sg_n (by assumption) (by assumption) | exact sg_z (by assumption) (by assumption)) (by assumption) (by assumption) (by assumption)⟩
  have C220 : ∀ (v7 : Int32) (o8 : Option jv) (o9 : Option jv) (o10 : Option jv), (¬ nI a = nI b) → (¬ men a &&& 7 = 1) → jJ E jcl 11 M (jQ E jcl M (fun r σ' n' => poG (if men a &&& 7 = 1 then geoP a b = true else geoN a b = true) σ n r σ' n') 0 0) n 0 0 220 [some (.inr (.inr (some (.inl (t))))), some (.inl (nI a)), some (.inl (nI b)), some (.inl (men a &&& 7)), some (.inl (gfi a b)), some (.inl (gra a b)), some (.inl ((gfi a b) * (gfi a b) + (gra a b) * (gra a b))), some (.inl v7), o8, o9, o10] [] σ := by
    intro v7 o8 o9 o10 c0 c1
    refine jrun_ok jC X k_MT_goes_220 220 _ _ _ o_MT_goes_220 ?_
    simp only [k_MT_goes_220, jrun, jstep, jldi, jldl, jlda, j1, j2, jl1, jl2, jli, ja1, jbr, jald, jast, jlald, jlast, jalen, jget, jput, jfit, jdup, jdupx, jdupx2, jdup2, jcat, jset1, jset2, jkill, List.getElem?_cons_zero, List.getElem?_cons_succ, List.set_cons_zero, List.set_cons_succ, List.length_cons, List.length_nil, Nat.reduceAdd, Nat.reduceLT, Int32.reduceToNatClampNeg, true_and, and_true, and_self, reduceCtorEq, not_false_eq_true, false_and, and_false, or_false, false_or, true_or, or_true, h0, hf, h1, ht, hm, h25, h26, h27, hca, hcb, efi, era]
    refine ?_
    exact jk_iret X d_MT_goes_221 hr rfl (Nat.le_refl _) (Nat.le_refl _) ⟨_, Or.inl rfl, (by intro h; exact absurd h (by decide)), rfl, rfl, rfl⟩
  have C210 : ∀ (v7 : Int32) (o8 : Option jv) (o9 : Option jv) (o10 : Option jv), (¬ nI a = nI b) → (¬ men a &&& 7 = 1) → (ali a b) → jJ E jcl 11 M (jQ E jcl M (fun r σ' n' => poG (if men a &&& 7 = 1 then geoP a b = true else geoN a b = true) σ n r σ' n') 0 0) n 0 0 210 [some (.inr (.inr (some (.inl (t))))), some (.inl (nI a)), some (.inl (nI b)), some (.inl (men a &&& 7)), some (.inl (gfi a b)), some (.inl (gra a b)), some (.inl ((gfi a b) * (gfi a b) + (gra a b) * (gra a b))), some (.inl v7), o8, o9, o10] [] σ := by
    intro v7 o8 o9 o10 c0 c1 c2
    refine jrun_ok jC X k_MT_goes_210 210 _ _ _ o_MT_goes_210 ?_
    simp only [k_MT_goes_210, jrun, jstep, jldi, jldl, jlda, j1, j2, jl1, jl2, jli, ja1, jbr, jald, jast, jlald, jlast, jalen, jget, jput, jfit, jdup, jdupx, jdupx2, jdup2, jcat, jset1, jset2, jkill, List.getElem?_cons_zero, List.getElem?_cons_succ, List.set_cons_zero, List.set_cons_succ, List.length_cons, List.length_nil, Nat.reduceAdd, Nat.reduceLT, Int32.reduceToNatClampNeg, true_and, and_true, and_self, reduceCtorEq, not_false_eq_true, false_and, and_false, or_false, false_or, true_or, or_true, h0, hf, h1, ht, hm, h25, h26, h27, hca, hcb, efi, era]
    exact ⟨fun h212 => C222 _ _ _ _ (by assumption) (by assumption) (by assumption), fun h212 => ⟨fun h217 => C222 _ _ _ _ (by assumption) (by assumption) (by assumption), fun h217 => C220 _ _ _ _ (by assumption) (by assumption)⟩⟩
  have C200 : ∀ (v7 : Int32) (o8 : Option jv) (o9 : Option jv) (o10 : Option jv), (¬ nI a = nI b) → (¬ men a &&& 7 = 1) → (ali a b) → jJ E jcl 11 M (jQ E jcl M (fun r σ' n' => poG (if men a &&& 7 = 1 then geoP a b = true else geoN a b = true) σ n r σ' n') 0 0) n 0 0 200 [some (.inr (.inr (some (.inl (t))))), some (.inl (nI a)), some (.inl (nI b)), some (.inl (men a &&& 7)), some (.inl (gfi a b)), some (.inl (gra a b)), some (.inl ((gfi a b) * (gfi a b) + (gra a b) * (gra a b))), some (.inl v7), o8, o9, o10] [] σ := by
    intro v7 o8 o9 o10 c0 c1 c2
    refine jrun_ok jC X k_MT_goes_200 200 _ _ _ o_MT_goes_200 ?_
    simp only [k_MT_goes_200, jrun, jstep, jldi, jldl, jlda, j1, j2, jl1, jl2, jli, ja1, jbr, jald, jast, jlald, jlast, jalen, jget, jput, jfit, jdup, jdupx, jdupx2, jdup2, jcat, jset1, jset2, jkill, List.getElem?_cons_zero, List.getElem?_cons_succ, List.set_cons_zero, List.set_cons_succ, List.length_cons, List.length_nil, Nat.reduceAdd, Nat.reduceLT, Int32.reduceToNatClampNeg, true_and, and_true, and_self, reduceCtorEq, not_false_eq_true, false_and, and_false, or_false, false_or, true_or, or_true, h0, hf, h1, ht, hm, h25, h26, h27, hca, hcb, efi, era]
    exact ⟨fun h202 => C210 _ _ _ _ (by assumption) (by assumption) (by assumption), fun h202 => ⟨fun h207 => C220 _ _ _ _ (by assumption) (by assumption), fun h207 => C210 _ _ _ _ (by assumption) (by assumption) (by assumption)⟩⟩
  have C178 : ∀ (o7 : Option jv) (o8 : Option jv) (o9 : Option jv) (o10 : Option jv) (s0 : Int32), (¬ nI a = nI b) → (¬ men a &&& 7 = 1) → (s0 = 0 ∨ gfi a b = 0 ∨ gra a b = 0) → jJ E jcl 11 M (jQ E jcl M (fun r σ' n' => poG (if men a &&& 7 = 1 then geoP a b = true else geoN a b = true) σ n r σ' n') 0 0) n 0 0 178 [some (.inr (.inr (some (.inl (t))))), some (.inl (nI a)), some (.inl (nI b)), some (.inl (men a &&& 7)), some (.inl (gfi a b)), some (.inl (gra a b)), some (.inl ((gfi a b) * (gfi a b) + (gra a b) * (gra a b))), o7, o8, o9, o10] [.inl s0] σ := by
    intro o7 o8 o9 o10 s0 c0 c1 c2
    refine jrun_ok jC X k_MT_goes_178 178 _ _ _ o_MT_goes_178 ?_
    simp only [k_MT_goes_178, jrun, jstep, jldi, jldl, jlda, j1, j2, jl1, jl2, jli, ja1, jbr, jald, jast, jlald, jlast, jalen, jget, jput, jfit, jdup, jdupx, jdupx2, jdup2, jcat, jset1, jset2, jkill, List.getElem?_cons_zero, List.getElem?_cons_succ, List.set_cons_zero, List.set_cons_succ, List.length_cons, List.length_nil, Nat.reduceAdd, Nat.reduceLT, Int32.reduceToNatClampNeg, true_and, and_true, and_self, reduceCtorEq, not_false_eq_true, false_and, and_false, or_false, false_or, true_or, or_true, h0, hf, h1, ht, hm, h25, h26, h27, hca, hcb, efi, era]
    exact ⟨fun h182 => C200 _ _ _ _ (by assumption) (by assumption) (by first | exact Or.inr (Or.inr (Or.inl (by assumption))) | exact Or.inr (Or.inr (Or.inr (by assumption))) | exact ali_of (by assumption) (by assumption)), fun h182 => ⟨fun h189 => C200 _ _ _ _ (by assumption) (by assumption) (by first | exact Or.inr (Or.inr (Or.inl (by assumption))) | exact Or.inr (Or.inr (Or.inr (by assumption))) | exact ali_of (by assumption) (by assumption)), fun h189 => ⟨fun h197 => C220 _ _ _ _ (by assumption) (by assumption), fun h197 => C200 _ _ _ _ (by assumption) (by assumption) (by first | exact Or.inr (Or.inr (Or.inl (by assumption))) | exact Or.inr (Or.inr (Or.inr (by assumption))) | exact ali_of (by assumption) (by assumption))⟩⟩⟩
  have C177 : ∀ (o7 : Option jv) (o8 : Option jv) (o9 : Option jv) (o10 : Option jv), (¬ nI a = nI b) → (¬ men a &&& 7 = 1) → jJ E jcl 11 M (jQ E jcl M (fun r σ' n' => poG (if men a &&& 7 = 1 then geoP a b = true else geoN a b = true) σ n r σ' n') 0 0) n 0 0 177 [some (.inr (.inr (some (.inl (t))))), some (.inl (nI a)), some (.inl (nI b)), some (.inl (men a &&& 7)), some (.inl (gfi a b)), some (.inl (gra a b)), some (.inl ((gfi a b) * (gfi a b) + (gra a b) * (gra a b))), o7, o8, o9, o10] [] σ := by
    intro o7 o8 o9 o10 c0 c1
    refine jrun_ok jC X k_MT_goes_177 177 _ _ _ o_MT_goes_177 ?_
    simp only [k_MT_goes_177, jrun, jstep, jldi, jldl, jlda, j1, j2, jl1, jl2, jli, ja1, jbr, jald, jast, jlald, jlast, jalen, jget, jput, jfit, jdup, jdupx, jdupx2, jdup2, jcat, jset1, jset2, jkill, List.getElem?_cons_zero, List.getElem?_cons_succ, List.set_cons_zero, List.set_cons_succ, List.length_cons, List.length_nil, Nat.reduceAdd, Nat.reduceLT, Int32.reduceToNatClampNeg, true_and, and_true, and_self, reduceCtorEq, not_false_eq_true, false_and, and_false, or_false, false_or, true_or, or_true, h0, hf, h1, ht, hm, h25, h26, h27, hca, hcb, efi, era]
    exact C178 _ _ _ _ _ (by assumption) (by assumption) (by first | exact Or.inl rfl | exact Or.inr (by assumption))
  have C173 : ∀ (o7 : Option jv) (o8 : Option jv) (o9 : Option jv) (o10 : Option jv), (¬ nI a = nI b) → (¬ men a &&& 7 = 1) → (gfi a b = 0 ∨ gra a b = 0) → jJ E jcl 11 M (jQ E jcl M (fun r σ' n' => poG (if men a &&& 7 = 1 then geoP a b = true else geoN a b = true) σ n r σ' n') 0 0) n 0 0 173 [some (.inr (.inr (some (.inl (t))))), some (.inl (nI a)), some (.inl (nI b)), some (.inl (men a &&& 7)), some (.inl (gfi a b)), some (.inl (gra a b)), some (.inl ((gfi a b) * (gfi a b) + (gra a b) * (gra a b))), o7, o8, o9, o10] [] σ := by
    intro o7 o8 o9 o10 c0 c1 c2
    refine jrun_ok jC X k_MT_goes_173 173 _ _ _ o_MT_goes_173 ?_
    simp only [k_MT_goes_173, jrun, jstep, jldi, jldl, jlda, j1, j2, jl1, jl2, jli, ja1, jbr, jald, jast, jlald, jlast, jalen, jget, jput, jfit, jdup, jdupx, jdupx2, jdup2, jcat, jset1, jset2, jkill, List.getElem?_cons_zero, List.getElem?_cons_succ, List.set_cons_zero, List.set_cons_succ, List.length_cons, List.length_nil, Nat.reduceAdd, Nat.reduceLT, Int32.reduceToNatClampNeg, true_and, and_true, and_self, reduceCtorEq, not_false_eq_true, false_and, and_false, or_false, false_or, true_or, or_true, h0, hf, h1, ht, hm, h25, h26, h27, hca, hcb, efi, era]
    exact C178 _ _ _ _ _ (by assumption) (by assumption) (by first | exact Or.inl rfl | exact Or.inr (by assumption))
  have C163 : ∀ (o7 : Option jv) (o8 : Option jv) (o9 : Option jv) (o10 : Option jv), (¬ nI a = nI b) → (¬ men a &&& 7 = 1) → jJ E jcl 11 M (jQ E jcl M (fun r σ' n' => poG (if men a &&& 7 = 1 then geoP a b = true else geoN a b = true) σ n r σ' n') 0 0) n 0 0 163 [some (.inr (.inr (some (.inl (t))))), some (.inl (nI a)), some (.inl (nI b)), some (.inl (men a &&& 7)), some (.inl (gfi a b)), some (.inl (gra a b)), some (.inl ((gfi a b) * (gfi a b) + (gra a b) * (gra a b))), o7, o8, o9, o10] [] σ := by
    intro o7 o8 o9 o10 c0 c1
    refine jrun_ok jC X k_MT_goes_163 163 _ _ _ o_MT_goes_163 ?_
    simp only [k_MT_goes_163, jrun, jstep, jldi, jldl, jlda, j1, j2, jl1, jl2, jli, ja1, jbr, jald, jast, jlald, jlast, jalen, jget, jput, jfit, jdup, jdupx, jdupx2, jdup2, jcat, jset1, jset2, jkill, List.getElem?_cons_zero, List.getElem?_cons_succ, List.set_cons_zero, List.set_cons_succ, List.length_cons, List.length_nil, Nat.reduceAdd, Nat.reduceLT, Int32.reduceToNatClampNeg, true_and, and_true, and_self, reduceCtorEq, not_false_eq_true, false_and, and_false, or_false, false_or, true_or, or_true, h0, hf, h1, ht, hm, h25, h26, h27, hca, hcb, efi, era]
    exact ⟨fun h165 => C173 _ _ _ _ (by assumption) (by assumption) (by first | exact Or.inl (by assumption) | exact Or.inr (by assumption)), fun h165 => ⟨fun h170 => C177 _ _ _ _ (by assumption) (by assumption), fun h170 => C173 _ _ _ _ (by assumption) (by assumption) (by first | exact Or.inl (by assumption) | exact Or.inr (by assumption))⟩⟩
  have C162 : ∀ (o7 : Option jv) (o8 : Option jv) (o9 : Option jv) (o10 : Option jv) (s0 : Int32), (¬ nI a = nI b) → (¬ men a &&& 7 = 1) → (s0 = 0 ∨ s0 = 1) → (s0 = 1 → (if men a &&& 7 = 1 then geoP a b = true else geoN a b = true)) → jJ E jcl 11 M (jQ E jcl M (fun r σ' n' => poG (if men a &&& 7 = 1 then geoP a b = true else geoN a b = true) σ n r σ' n') 0 0) n 0 0 162 [some (.inr (.inr (some (.inl (t))))), some (.inl (nI a)), some (.inl (nI b)), some (.inl (men a &&& 7)), some (.inl (gfi a b)), some (.inl (gra a b)), some (.inl ((gfi a b) * (gfi a b) + (gra a b) * (gra a b))), o7, o8, o9, o10] [.inl s0] σ := by
    intro o7 o8 o9 o10 s0 c0 c1 c2 c3
    exact jk_iret X d_MT_goes_162 hr (bo_n (by assumption)) (Nat.le_refl _) (Nat.le_refl _) ⟨_, (by assumption), (by assumption), rfl, rfl, rfl⟩
  have C161 : ∀ (o7 : Option jv) (o8 : Option jv) (o9 : Option jv) (o10 : Option jv), (¬ nI a = nI b) → (¬ men a &&& 7 = 1) → jJ E jcl 11 M (jQ E jcl M (fun r σ' n' => poG (if men a &&& 7 = 1 then geoP a b = true else geoN a b = true) σ n r σ' n') 0 0) n 0 0 161 [some (.inr (.inr (some (.inl (t))))), some (.inl (nI a)), some (.inl (nI b)), some (.inl (men a &&& 7)), some (.inl (gfi a b)), some (.inl (gra a b)), some (.inl ((gfi a b) * (gfi a b) + (gra a b) * (gra a b))), o7, o8, o9, o10] [] σ := by
    intro o7 o8 o9 o10 c0 c1
    refine jrun_ok jC X k_MT_goes_161 161 _ _ _ o_MT_goes_161 ?_
    simp only [k_MT_goes_161, jrun, jstep, jldi, jldl, jlda, j1, j2, jl1, jl2, jli, ja1, jbr, jald, jast, jlald, jlast, jalen, jget, jput, jfit, jdup, jdupx, jdupx2, jdup2, jcat, jset1, jset2, jkill, List.getElem?_cons_zero, List.getElem?_cons_succ, List.set_cons_zero, List.set_cons_succ, List.length_cons, List.length_nil, Nat.reduceAdd, Nat.reduceLT, Int32.reduceToNatClampNeg, true_and, and_true, and_self, reduceCtorEq, not_false_eq_true, false_and, and_false, or_false, false_or, true_or, or_true, h0, hf, h1, ht, hm, h25, h26, h27, hca, hcb, efi, era]
    exact C162 _ _ _ _ _ (by assumption) (by assumption) (by first | assumption | exact Or.inl rfl | exact Or.inr rfl) (by intro h; exact absurd h (by decide))
  have C157 : ∀ (o7 : Option jv) (o8 : Option jv) (o9 : Option jv) (o10 : Option jv), (¬ nI a = nI b) → (¬ men a &&& 7 = 1) → (geoN a b = true) → jJ E jcl 11 M (jQ E jcl M (fun r σ' n' => poG (if men a &&& 7 = 1 then geoP a b = true else geoN a b = true) σ n r σ' n') 0 0) n 0 0 157 [some (.inr (.inr (some (.inl (t))))), some (.inl (nI a)), some (.inl (nI b)), some (.inl (men a &&& 7)), some (.inl (gfi a b)), some (.inl (gra a b)), some (.inl ((gfi a b) * (gfi a b) + (gra a b) * (gra a b))), o7, o8, o9, o10] [] σ := by
    intro o7 o8 o9 o10 c0 c1 c2
    refine jrun_ok jC X k_MT_goes_157 157 _ _ _ o_MT_goes_157 ?_
    simp only [k_MT_goes_157, jrun, jstep, jldi, jldl, jlda, j1, j2, jl1, jl2, jli, ja1, jbr, jald, jast, jlald, jlast, jalen, jget, jput, jfit, jdup, jdupx, jdupx2, jdup2, jcat, jset1, jset2, jkill, List.getElem?_cons_zero, List.getElem?_cons_succ, List.set_cons_zero, List.set_cons_succ, List.length_cons, List.length_nil, Nat.reduceAdd, Nat.reduceLT, Int32.reduceToNatClampNeg, true_and, and_true, and_self, reduceCtorEq, not_false_eq_true, false_and, and_false, or_false, false_or, true_or, or_true, h0, hf, h1, ht, hm, h25, h26, h27, hca, hcb, efi, era]
    exact C162 _ _ _ _ _ (by assumption) (by assumption) (Or.inr rfl) (fun _ => by rw [if_neg (by assumption)]; assumption)
  have C154 : ∀ (o7 : Option jv) (o8 : Option jv) (o9 : Option jv) (o10 : Option jv) (s0 : Int32), (¬ nI a = nI b) → (¬ men a &&& 7 = 1) → (gra a b = 0) → jJ E jcl 11 M (jQ E jcl M (fun r σ' n' => poG (if men a &&& 7 = 1 then geoP a b = true else geoN a b = true) σ n r σ' n') 0 0) n 0 0 154 [some (.inr (.inr (some (.inl (t))))), some (.inl (nI a)), some (.inl (nI b)), some (.inl (men a &&& 7)), some (.inl (gfi a b)), some (.inl (gra a b)), some (.inl ((gfi a b) * (gfi a b) + (gra a b) * (gra a b))), o7, o8, o9, o10] [.inl s0] σ := by
    intro o7 o8 o9 o10 s0 c0 c1 c2
    refine jrun_ok jC X k_MT_goes_154 154 _ _ _ o_MT_goes_154 ?_
    simp only [k_MT_goes_154, jrun, jstep, jldi, jldl, jlda, j1, j2, jl1, jl2, jli, ja1, jbr, jald, jast, jlald, jlast, jalen, jget, jput, jfit, jdup, jdupx, jdupx2, jdup2, jcat, jset1, jset2, jkill, List.getElem?_cons_zero, List.getElem?_cons_succ, List.set_cons_zero, List.set_cons_succ, List.length_cons, List.length_nil, Nat.reduceAdd, Nat.reduceLT, Int32.reduceToNatClampNeg, true_and, and_true, and_self, reduceCtorEq, not_false_eq_true, false_and, and_false, or_false, false_or, true_or, or_true, h0, hf, h1, ht, hm, h25, h26, h27, hca, hcb, efi, era]
    exact ⟨fun h154 => C161 _ _ _ _ (by assumption) (by assumption), fun h154 => C157 _ _ _ _ (by assumption) (by assumption) (by first | exact geoN_ali (nI_ne ha hb (by assumption)) (kg_ok a ha b hb (nI_ne ha hb (by assumption)) (by assumption)) | exact geoN_ali (nI_ne ha hb (by assumption)) (ali_b (Or.inr (Or.inl (by assumption)))))⟩
  have C113 : ∀ (o7 : Option jv) (o8 : Option jv) (o9 : Option jv) (o10 : Option jv), (¬ nI a = nI b) → (¬ men a &&& 7 = 1) → jJ E jcl 11 M (jQ E jcl M (fun r σ' n' => poG (if men a &&& 7 = 1 then geoP a b = true else geoN a b = true) σ n r σ' n') 0 0) n 0 0 113 [some (.inr (.inr (some (.inl (t))))), some (.inl (nI a)), some (.inl (nI b)), some (.inl (men a &&& 7)), some (.inl (gfi a b)), some (.inl (gra a b)), some (.inl ((gfi a b) * (gfi a b) + (gra a b) * (gra a b))), o7, o8, o9, o10] [] σ := by
    intro o7 o8 o9 o10 c0 c1
    refine jrun_ok jC X k_MT_goes_113 113 _ _ _ o_MT_goes_113 ?_
    simp only [k_MT_goes_113, jrun, jstep, jldi, jldl, jlda, j1, j2, jl1, jl2, jli, ja1, jbr, jald, jast, jlald, jlast, jalen, jget, jput, jfit, jdup, jdupx, jdupx2, jdup2, jcat, jset1, jset2, jkill, List.getElem?_cons_zero, List.getElem?_cons_succ, List.set_cons_zero, List.set_cons_succ, List.length_cons, List.length_nil, Nat.reduceAdd, Nat.reduceLT, Int32.reduceToNatClampNeg, true_and, and_true, and_self, reduceCtorEq, not_false_eq_true, false_and, and_false, or_false, false_or, true_or, or_true, h0, hf, h1, ht, hm, h25, h26, h27, hca, hcb, efi, era]
    refine ⟨fun h116 => C163 _ _ _ _ (by assumption) (by assumption), fun h116 => ⟨fun h122 => C157 _ _ _ _ (by assumption) (by assumption) (by first | exact geoN_ali (nI_ne ha hb (by assumption)) (kg_ok a ha b hb (nI_ne ha hb (by assumption)) (by assumption)) | exact geoN_ali (nI_ne ha hb (by assumption)) (ali_b (Or.inr (Or.inl (by assumption))))), fun h122 => ⟨fun h135 => C161 _ _ _ _ (by assumption) (by assumption), fun h135 => ⟨fun h140 => C161 _ _ _ _ (by assumption) (by assumption), fun h140 => ⟨fun h146 => C161 _ _ _ _ (by assumption) (by assumption), fun h146 => ?_⟩⟩⟩⟩⟩
    refine jk_VB X hR d_MT_goes_151 q_MT_goes_151 m_MT_mayCastle i_MT_mayCastle e_MT_mayCastle (ci := 12) rfl rfl ht h0 (c_MT_mayCastle M.2.1 E _ _ _ _ _ _ ht h0 hf hm h1 _ _ _ h25 h26 h27 hsd b hb) rfl rfl ⟨Nat.le_of_ble_eq_true rfl, Nat.le_of_ble_eq_true rfl⟩ ⟨rfl, rfl⟩ ⟨Nat.le_of_ble_eq_true rfl, Nat.le_of_ble_eq_true rfl⟩ (Nat.le_of_ble_eq_true rfl) (pc' := 154) rfl ?_
    intro vb cb
    exact C154 _ _ _ _ _ (by assumption) (by assumption) (by assumption)
  have C112 : ∀ (o7 : Option jv) (o8 : Option jv) (o9 : Option jv) (o10 : Option jv) (s0 : Int32), (¬ nI a = nI b) → (¬ men a &&& 7 = 1) → (s0 = 0 ∨ s0 = 1) → (s0 = 1 → (if men a &&& 7 = 1 then geoP a b = true else geoN a b = true)) → jJ E jcl 11 M (jQ E jcl M (fun r σ' n' => poG (if men a &&& 7 = 1 then geoP a b = true else geoN a b = true) σ n r σ' n') 0 0) n 0 0 112 [some (.inr (.inr (some (.inl (t))))), some (.inl (nI a)), some (.inl (nI b)), some (.inl (men a &&& 7)), some (.inl (gfi a b)), some (.inl (gra a b)), some (.inl ((gfi a b) * (gfi a b) + (gra a b) * (gra a b))), o7, o8, o9, o10] [.inl s0] σ := by
    intro o7 o8 o9 o10 s0 c0 c1 c2 c3
    exact jk_iret X d_MT_goes_112 hr (bo_n (by assumption)) (Nat.le_refl _) (Nat.le_refl _) ⟨_, (by assumption), (by assumption), rfl, rfl, rfl⟩
  have C111 : ∀ (o7 : Option jv) (o8 : Option jv) (o9 : Option jv) (o10 : Option jv), (¬ nI a = nI b) → (¬ men a &&& 7 = 1) → jJ E jcl 11 M (jQ E jcl M (fun r σ' n' => poG (if men a &&& 7 = 1 then geoP a b = true else geoN a b = true) σ n r σ' n') 0 0) n 0 0 111 [some (.inr (.inr (some (.inl (t))))), some (.inl (nI a)), some (.inl (nI b)), some (.inl (men a &&& 7)), some (.inl (gfi a b)), some (.inl (gra a b)), some (.inl ((gfi a b) * (gfi a b) + (gra a b) * (gra a b))), o7, o8, o9, o10] [] σ := by
    intro o7 o8 o9 o10 c0 c1
    refine jrun_ok jC X k_MT_goes_111 111 _ _ _ o_MT_goes_111 ?_
    simp only [k_MT_goes_111, jrun, jstep, jldi, jldl, jlda, j1, j2, jl1, jl2, jli, ja1, jbr, jald, jast, jlald, jlast, jalen, jget, jput, jfit, jdup, jdupx, jdupx2, jdup2, jcat, jset1, jset2, jkill, List.getElem?_cons_zero, List.getElem?_cons_succ, List.set_cons_zero, List.set_cons_succ, List.length_cons, List.length_nil, Nat.reduceAdd, Nat.reduceLT, Int32.reduceToNatClampNeg, true_and, and_true, and_self, reduceCtorEq, not_false_eq_true, false_and, and_false, or_false, false_or, true_or, or_true, h0, hf, h1, ht, hm, h25, h26, h27, hca, hcb, efi, era]
    exact C112 _ _ _ _ _ (by assumption) (by assumption) (by first | assumption | exact Or.inl rfl | exact Or.inr rfl) (by intro h; exact absurd h (by decide))
  have C61 : ∀ (o4 : Option jv) (o5 : Option jv) (o6 : Option jv) (o7 : Option jv) (o8 : Option jv) (o9 : Option jv) (o10 : Option jv), (¬ nI a = nI b) → (¬ men a &&& 7 = 1) → jJ E jcl 11 M (jQ E jcl M (fun r σ' n' => poG (if men a &&& 7 = 1 then geoP a b = true else geoN a b = true) σ n r σ' n') 0 0) n 0 0 61 [some (.inr (.inr (some (.inl (t))))), some (.inl (nI a)), some (.inl (nI b)), some (.inl (men a &&& 7)), o4, o5, o6, o7, o8, o9, o10] [] σ := by
    intro o4 o5 o6 o7 o8 o9 o10 c0 c1
    refine jrun_ok jC X k_MT_goes_61 61 _ _ _ o_MT_goes_61 ?_
    simp only [k_MT_goes_61, jrun, jstep, jldi, jldl, jlda, j1, j2, jl1, jl2, jli, ja1, jbr, jald, jast, jlald, jlast, jalen, jget, jput, jfit, jdup, jdupx, jdupx2, jdup2, jcat, jset1, jset2, jkill, List.getElem?_cons_zero, List.getElem?_cons_succ, List.set_cons_zero, List.set_cons_succ, List.length_cons, List.length_nil, Nat.reduceAdd, Nat.reduceLT, Int32.reduceToNatClampNeg, true_and, and_true, and_self, reduceCtorEq, not_false_eq_true, false_and, and_false, or_false, false_or, true_or, or_true, h0, hf, h1, ht, hm, h25, h26, h27, hca, hcb, efi, era]
    exact ⟨by decide, ⟨by decide, ⟨by decide, ⟨by decide, ⟨fun h98 => C113 _ _ _ _ (by assumption) (by assumption), fun h98 => ⟨fun h104 => C111 _ _ _ _ (by assumption) (by assumption), fun h104 => C112 _ _ _ _ _ (by assumption) (by assumption) (Or.inr rfl) (fun _ => by rw [if_neg (by assumption)]; exact geoN_kn (nI_ne ha hb (by assumption)) (by assumption))⟩⟩⟩⟩⟩⟩
  have C60 : ∀ (o4 : Option jv) (o5 : Option jv) (o6 : Option jv) (o7 : Option jv) (o8 : Option jv) (o9 : Option jv) (o10 : Option jv) (s0 : Int32), (¬ nI a = nI b) → (s0 = 0 ∨ s0 = 1) → (s0 = 1 → (if men a &&& 7 = 1 then geoP a b = true else geoN a b = true)) → jJ E jcl 11 M (jQ E jcl M (fun r σ' n' => poG (if men a &&& 7 = 1 then geoP a b = true else geoN a b = true) σ n r σ' n') 0 0) n 0 0 60 [some (.inr (.inr (some (.inl (t))))), some (.inl (nI a)), some (.inl (nI b)), some (.inl (men a &&& 7)), o4, o5, o6, o7, o8, o9, o10] [.inl s0] σ := by
    intro o4 o5 o6 o7 o8 o9 o10 s0 c0 c1 c2
    exact jk_iret X d_MT_goes_60 hr (bo_n (by assumption)) (Nat.le_refl _) (Nat.le_refl _) ⟨_, (by assumption), (by assumption), rfl, rfl, rfl⟩
  have C48 : ∀ (o3 : Option jv) (o4 : Option jv) (o5 : Option jv) (o6 : Option jv) (o7 : Option jv) (o8 : Option jv) (o9 : Option jv) (o10 : Option jv) (s0 : Int32), (s0 = men a &&& 7) → (¬ nI a = nI b) → jJ E jcl 11 M (jQ E jcl M (fun r σ' n' => poG (if men a &&& 7 = 1 then geoP a b = true else geoN a b = true) σ n r σ' n') 0 0) n 0 0 48 [some (.inr (.inr (some (.inl (t))))), some (.inl (nI a)), some (.inl (nI b)), o3, o4, o5, o6, o7, o8, o9, o10] [.inl s0] σ := by
    intro o3 o4 o5 o6 o7 o8 o9 o10 s0 c0 c1
    subst c0
    refine jrun_ok jC X k_MT_goes_48 48 _ _ _ o_MT_goes_48 ?_
    simp only [k_MT_goes_48, jrun, jstep, jldi, jldl, jlda, j1, j2, jl1, jl2, jli, ja1, jbr, jald, jast, jlald, jlast, jalen, jget, jput, jfit, jdup, jdupx, jdupx2, jdup2, jcat, jset1, jset2, jkill, List.getElem?_cons_zero, List.getElem?_cons_succ, List.set_cons_zero, List.set_cons_succ, List.length_cons, List.length_nil, Nat.reduceAdd, Nat.reduceLT, Int32.reduceToNatClampNeg, true_and, and_true, and_self, reduceCtorEq, not_false_eq_true, false_and, and_false, or_false, false_or, true_or, or_true, h0, hf, h1, ht, hm, h25, h26, h27, hca, hcb, efi, era]
    refine ⟨fun h51 => C61 _ _ _ _ _ _ _ (by assumption) (by assumption), fun h51 => ?_⟩
    refine jk_VG X hR d_MT_goes_57 q_MT_goes_57 m_MT_pawnGoes i_MT_pawnGoes e_MT_pawnGoes (ci := 12) rfl rfl ht h0 (c_MT_pawnGoes M.2.1 E _ _ _ _ _ _ ht h0 hf hm h1 _ _ _ h25 h26 h27 hsd a b ha hb) rfl rfl ⟨Nat.le_of_ble_eq_true rfl, Nat.le_of_ble_eq_true rfl⟩ ⟨rfl, rfl⟩ ⟨Nat.le_of_ble_eq_true rfl, Nat.le_of_ble_eq_true rfl⟩ (Nat.le_of_ble_eq_true rfl) (pc' := 60) rfl ?_
    intro vb cb cg
    exact C60 _ _ _ _ _ _ _ _ (by assumption) cb (fun h => by rw [if_pos (by assumption)]; exact cg h)
  have C39 : ∀ (o3 : Option jv) (o4 : Option jv) (o5 : Option jv) (o6 : Option jv) (o7 : Option jv) (o8 : Option jv) (o9 : Option jv) (o10 : Option jv), (¬ nI a = nI b) → jJ E jcl 11 M (jQ E jcl M (fun r σ' n' => poG (if men a &&& 7 = 1 then geoP a b = true else geoN a b = true) σ n r σ' n') 0 0) n 0 0 39 [some (.inr (.inr (some (.inl (t))))), some (.inl (nI a)), some (.inl (nI b)), o3, o4, o5, o6, o7, o8, o9, o10] [] σ := by
    intro o3 o4 o5 o6 o7 o8 o9 o10 c0
    refine jrun_ok jC X k_MT_goes_39 39 _ _ _ o_MT_goes_39 ?_
    simp only [k_MT_goes_39, jrun, jstep, jldi, jldl, jlda, j1, j2, jl1, jl2, jli, ja1, jbr, jald, jast, jlald, jlast, jalen, jget, jput, jfit, jdup, jdupx, jdupx2, jdup2, jcat, jset1, jset2, jkill, List.getElem?_cons_zero, List.getElem?_cons_succ, List.set_cons_zero, List.set_cons_succ, List.length_cons, List.length_nil, Nat.reduceAdd, Nat.reduceLT, Int32.reduceToNatClampNeg, true_and, and_true, and_self, reduceCtorEq, not_false_eq_true, false_and, and_false, or_false, false_or, true_or, or_true, h0, hf, h1, ht, hm, h25, h26, h27, hca, hcb, efi, era]
    refine ⟨(vp_in_nI ha (by omega)), ?_⟩
    refine jk_Si X hR d_MT_goes_45 q_MT_goes_45 m_MT_kind s_MT_kind (c_MT_kind M.2.1 E _ _ _) rfl rfl ⟨Nat.le_of_ble_eq_true rfl, Nat.le_of_ble_eq_true rfl⟩ ⟨rfl, rfl⟩ ⟨Nat.le_of_ble_eq_true rfl, Nat.le_of_ble_eq_true rfl⟩ (Nat.le_of_ble_eq_true rfl) (pc' := 48) rfl ?_
    exact C48 _ _ _ _ _ _ _ _ _ rfl (by assumption)
  have C37 : ∀ (o3 : Option jv) (o4 : Option jv) (o5 : Option jv) (o6 : Option jv) (o7 : Option jv) (o8 : Option jv) (o9 : Option jv) (o10 : Option jv), jJ E jcl 11 M (jQ E jcl M (fun r σ' n' => poG (if men a &&& 7 = 1 then geoP a b = true else geoN a b = true) σ n r σ' n') 0 0) n 0 0 37 [some (.inr (.inr (some (.inl (t))))), some (.inl (nI a)), some (.inl (nI b)), o3, o4, o5, o6, o7, o8, o9, o10] [] σ := by
    intro o3 o4 o5 o6 o7 o8 o9 o10
    refine jrun_ok jC X k_MT_goes_37 37 _ _ _ o_MT_goes_37 ?_
    simp only [k_MT_goes_37, jrun, jstep, jldi, jldl, jlda, j1, j2, jl1, jl2, jli, ja1, jbr, jald, jast, jlald, jlast, jalen, jget, jput, jfit, jdup, jdupx, jdupx2, jdup2, jcat, jset1, jset2, jkill, List.getElem?_cons_zero, List.getElem?_cons_succ, List.set_cons_zero, List.set_cons_succ, List.length_cons, List.length_nil, Nat.reduceAdd, Nat.reduceLT, Int32.reduceToNatClampNeg, true_and, and_true, and_self, reduceCtorEq, not_false_eq_true, false_and, and_false, or_false, false_or, true_or, or_true, h0, hf, h1, ht, hm, h25, h26, h27, hca, hcb, efi, era]
    refine ?_
    exact jk_iret X d_MT_goes_38 hr rfl (Nat.le_refl _) (Nat.le_refl _) ⟨_, Or.inl rfl, (by intro h; exact absurd h (by decide)), rfl, rfl, rfl⟩
  have C25 : ∀ (o3 : Option jv) (o4 : Option jv) (o5 : Option jv) (o6 : Option jv) (o7 : Option jv) (o8 : Option jv) (o9 : Option jv) (o10 : Option jv) (s0 : Int32), jJ E jcl 11 M (jQ E jcl M (fun r σ' n' => poG (if men a &&& 7 = 1 then geoP a b = true else geoN a b = true) σ n r σ' n') 0 0) n 0 0 25 [some (.inr (.inr (some (.inl (t))))), some (.inl (nI a)), some (.inl (nI b)), o3, o4, o5, o6, o7, o8, o9, o10] [.inl s0] σ := by
    intro o3 o4 o5 o6 o7 o8 o9 o10 s0
    refine jrun_ok jC X k_MT_goes_25 25 _ _ _ o_MT_goes_25 ?_
    simp only [k_MT_goes_25, jrun, jstep, jldi, jldl, jlda, j1, j2, jl1, jl2, jli, ja1, jbr, jald, jast, jlald, jlast, jalen, jget, jput, jfit, jdup, jdupx, jdupx2, jdup2, jcat, jset1, jset2, jkill, List.getElem?_cons_zero, List.getElem?_cons_succ, List.set_cons_zero, List.set_cons_succ, List.length_cons, List.length_nil, Nat.reduceAdd, Nat.reduceLT, Int32.reduceToNatClampNeg, true_and, and_true, and_self, reduceCtorEq, not_false_eq_true, false_and, and_false, or_false, false_or, true_or, or_true, h0, hf, h1, ht, hm, h25, h26, h27, hca, hcb, efi, era]
    exact ⟨fun h29 => C37 _ _ _ _ _ _ _ _, fun h29 => ⟨fun h34 => C39 _ _ _ _ _ _ _ _ (by assumption), fun h34 => C37 _ _ _ _ _ _ _ _⟩⟩
  have C9 : ∀ (o3 : Option jv) (o4 : Option jv) (o5 : Option jv) (o6 : Option jv) (o7 : Option jv) (o8 : Option jv) (o9 : Option jv) (o10 : Option jv) (s0 : Int32), jJ E jcl 11 M (jQ E jcl M (fun r σ' n' => poG (if men a &&& 7 = 1 then geoP a b = true else geoN a b = true) σ n r σ' n') 0 0) n 0 0 9 [some (.inr (.inr (some (.inl (t))))), some (.inl (nI a)), some (.inl (nI b)), o3, o4, o5, o6, o7, o8, o9, o10] [.inl s0] σ := by
    intro o3 o4 o5 o6 o7 o8 o9 o10 s0
    refine jrun_ok jC X k_MT_goes_9 9 _ _ _ o_MT_goes_9 ?_
    simp only [k_MT_goes_9, jrun, jstep, jldi, jldl, jlda, j1, j2, jl1, jl2, jli, ja1, jbr, jald, jast, jlald, jlast, jalen, jget, jput, jfit, jdup, jdupx, jdupx2, jdup2, jcat, jset1, jset2, jkill, List.getElem?_cons_zero, List.getElem?_cons_succ, List.set_cons_zero, List.set_cons_succ, List.length_cons, List.length_nil, Nat.reduceAdd, Nat.reduceLT, Int32.reduceToNatClampNeg, true_and, and_true, and_self, reduceCtorEq, not_false_eq_true, false_and, and_false, or_false, false_or, true_or, or_true, h0, hf, h1, ht, hm, h25, h26, h27, hca, hcb, efi, era]
    refine ⟨fun h13 => C37 _ _ _ _ _ _ _ _, fun h13 => ⟨(vp_in_nI hb (by omega)), ?_⟩⟩
    refine jk_Si X hR d_MT_goes_22 q_MT_goes_22 m_MT_sideOf s_MT_sideOf (c_MT_sideOf M.2.1 E _ _ _) rfl rfl ⟨Nat.le_of_ble_eq_true rfl, Nat.le_of_ble_eq_true rfl⟩ ⟨rfl, rfl⟩ ⟨Nat.le_of_ble_eq_true rfl, Nat.le_of_ble_eq_true rfl⟩ (Nat.le_of_ble_eq_true rfl) (pc' := 25) rfl ?_
    exact C25 _ _ _ _ _ _ _ _ _
  refine jrun_ok jC X k_MT_goes_0 0 _ _ _ o_MT_goes_0 ?_
  simp only [k_MT_goes_0, jrun, jstep, jldi, jldl, jlda, j1, j2, jl1, jl2, jli, ja1, jbr, jald, jast, jlald, jlast, jalen, jget, jput, jfit, jdup, jdupx, jdupx2, jdup2, jcat, jset1, jset2, jkill, List.getElem?_cons_zero, List.getElem?_cons_succ, List.set_cons_zero, List.set_cons_succ, List.length_cons, List.length_nil, Nat.reduceAdd, Nat.reduceLT, Int32.reduceToNatClampNeg, true_and, and_true, and_self, reduceCtorEq, not_false_eq_true, false_and, and_false, or_false, false_or, true_or, or_true, h0, hf, h1, ht, hm, h25, h26, h27, hca, hcb, efi, era]
  refine ⟨(vp_in_nI ha (by omega)), ?_⟩
  refine jk_Si X hR d_MT_goes_6 q_MT_goes_6 m_MT_sideOf s_MT_sideOf (c_MT_sideOf M.2.1 E _ _ _) rfl rfl ⟨Nat.le_of_ble_eq_true rfl, Nat.le_of_ble_eq_true rfl⟩ ⟨rfl, rfl⟩ ⟨Nat.le_of_ble_eq_true rfl, Nat.le_of_ble_eq_true rfl⟩ (Nat.le_of_ble_eq_true rfl) (pc' := 9) rfl ?_
  exact C9 _ _ _ _ _ _ _ _ _
end
section
/-! the Texts as a picture that moves: five scalars and the count of moves, the men, what is kept, the list -/
def mtf (g : List jv) (sd ri pa cl nu mv : Int32) : List jv := (((((g.set 25 (.inl sd)).set 26 (.inl ri)).set 27 (.inl pa)).set 28 (.inl cl)).set 29 (.inl nu)).set 33 (.inl mv)
theorem mtf_len {g : List jv} {sd ri pa cl nu mv : Int32} (hg : g.length = 40) : (mtf g sd ri pa cl nu mv).length = 40 := by simp [mtf, hg]
theorem mtf_25 {g : List jv} {sd ri pa cl nu mv : Int32} (hg : g.length = 40) : (mtf g sd ri pa cl nu mv)[25]? = some (.inl sd) := by simp [mtf, List.getElem?_set, hg]
theorem mtf_s25 {g : List jv} {sd ri pa cl nu mv x : Int32} : (mtf g sd ri pa cl nu mv).set 25 (.inl x) = mtf g x ri pa cl nu mv := by
  apply List.ext_getElem?
  intro i
  simp only [mtf, List.getElem?_set, List.length_set]
  repeat' split
  all_goals first | rfl | omega | simp_all
theorem mtf_26 {g : List jv} {sd ri pa cl nu mv : Int32} (hg : g.length = 40) : (mtf g sd ri pa cl nu mv)[26]? = some (.inl ri) := by simp [mtf, List.getElem?_set, hg]
theorem mtf_s26 {g : List jv} {sd ri pa cl nu mv x : Int32} : (mtf g sd ri pa cl nu mv).set 26 (.inl x) = mtf g sd x pa cl nu mv := by
  apply List.ext_getElem?
  intro i
  simp only [mtf, List.getElem?_set, List.length_set]
  repeat' split
  all_goals first | rfl | omega | simp_all
theorem mtf_27 {g : List jv} {sd ri pa cl nu mv : Int32} (hg : g.length = 40) : (mtf g sd ri pa cl nu mv)[27]? = some (.inl pa) := by simp [mtf, List.getElem?_set, hg]
theorem mtf_s27 {g : List jv} {sd ri pa cl nu mv x : Int32} : (mtf g sd ri pa cl nu mv).set 27 (.inl x) = mtf g sd ri x cl nu mv := by
  apply List.ext_getElem?
  intro i
  simp only [mtf, List.getElem?_set, List.length_set]
  repeat' split
  all_goals first | rfl | omega | simp_all
theorem mtf_28 {g : List jv} {sd ri pa cl nu mv : Int32} (hg : g.length = 40) : (mtf g sd ri pa cl nu mv)[28]? = some (.inl cl) := by simp [mtf, List.getElem?_set, hg]
theorem mtf_s28 {g : List jv} {sd ri pa cl nu mv x : Int32} : (mtf g sd ri pa cl nu mv).set 28 (.inl x) = mtf g sd ri pa x nu mv := by
  apply List.ext_getElem?
  intro i
  simp only [mtf, List.getElem?_set, List.length_set]
  repeat' split
  all_goals first | rfl | omega | simp_all
theorem mtf_29 {g : List jv} {sd ri pa cl nu mv : Int32} (hg : g.length = 40) : (mtf g sd ri pa cl nu mv)[29]? = some (.inl nu) := by simp [mtf, List.getElem?_set, hg]
theorem mtf_s29 {g : List jv} {sd ri pa cl nu mv x : Int32} : (mtf g sd ri pa cl nu mv).set 29 (.inl x) = mtf g sd ri pa cl x mv := by
  apply List.ext_getElem?
  intro i
  simp only [mtf, List.getElem?_set, List.length_set]
  repeat' split
  all_goals first | rfl | omega | simp_all
theorem mtf_33 {g : List jv} {sd ri pa cl nu mv : Int32} (hg : g.length = 40) : (mtf g sd ri pa cl nu mv)[33]? = some (.inl mv) := by simp [mtf, List.getElem?_set, hg]
theorem mtf_s33 {g : List jv} {sd ri pa cl nu mv x : Int32} : (mtf g sd ri pa cl nu mv).set 33 (.inl x) = mtf g sd ri pa cl nu x := by
  apply List.ext_getElem?
  intro i
  simp only [mtf, List.getElem?_set, List.length_set]
  repeat' split
  all_goals first | rfl | omega | simp_all
theorem mtf_24 {g : List jv} {sd ri pa cl nu mv : Int32} : (mtf g sd ri pa cl nu mv)[24]? = g[24]? := by simp [mtf, List.getElem?_set]
theorem mtf_30 {g : List jv} {sd ri pa cl nu mv : Int32} : (mtf g sd ri pa cl nu mv)[30]? = g[30]? := by simp [mtf, List.getElem?_set]
theorem mtf_31 {g : List jv} {sd ri pa cl nu mv : Int32} : (mtf g sd ri pa cl nu mv)[31]? = g[31]? := by simp [mtf, List.getElem?_set]
theorem mtf_32 {g : List jv} {sd ri pa cl nu mv : Int32} : (mtf g sd ri pa cl nu mv)[32]? = g[32]? := by simp [mtf, List.getElem?_set]
abbrev txp : Type := Nat × Nat × Nat × Nat × Nat
def txS (σ : Nat → jcell) (P : txp) (g : List jv) (sd ri pa cl nu mv : Int32) (men km kr li : Nat → Int32) : Nat → jcell := fun p =>
  if p = P.1 then .inr (12, mtf g sd ri pa cl nu mv) else if p = P.2.1 then .inl (.int, 64, .inl men) else if p = P.2.2.1 then .inl (.int, 64, .inl km) else if p = P.2.2.2.1 then .inl (.int, 5, .inl kr) else if p = P.2.2.2.2 then .inl (.int, 2048, .inl li) else σ p
/-- the places are apart, the fields point to them -/
def txd (P : txp) (g : List jv) (n : Nat) : Prop := (P.1 < P.2.1 ∧ P.2.1 < P.2.2.1 ∧ P.2.2.1 < P.2.2.2.1 ∧ P.2.2.2.1 < P.2.2.2.2 ∧ P.2.2.2.2 < n) ∧ g.length = 40 ∧ g[24]? = some (.inr (.inr (some (.inl P.2.1)))) ∧ g[30]? = some (.inr (.inr (some (.inl P.2.2.1)))) ∧ g[31]? = some (.inr (.inr (some (.inl P.2.2.2.1)))) ∧ g[32]? = some (.inr (.inr (some (.inl P.2.2.2.2))))
theorem vp_nar_int32 (x : Int32) : vp_nar .int x = x := rfl
section TXS
variable {σ : Nat → jcell} {P : txp} {g : List jv} {n : Nat} {sd ri pa cl nu mv : Int32} {men km kr li : Nat → Int32}
theorem tx_t (h : txd P g n) : txS σ P g sd ri pa cl nu mv men km kr li P.1 = .inr (12, mtf g sd ri pa cl nu mv) := by
  obtain ⟨⟨h1, h2, h3, h4, h5⟩, -⟩ := h
  unfold txS
  repeat rw [if_neg (by omega)]
  rw [if_pos rfl]
theorem tx_nt (h : txd P g n) : P.1 < n := by
  obtain ⟨⟨h1, h2, h3, h4, h5⟩, -⟩ := h
  omega
theorem tx_m (h : txd P g n) : txS σ P g sd ri pa cl nu mv men km kr li P.2.1 = .inl (.int, 64, .inl men) := by
  obtain ⟨⟨h1, h2, h3, h4, h5⟩, -⟩ := h
  unfold txS
  repeat rw [if_neg (by omega)]
  rw [if_pos rfl]
theorem tx_nm (h : txd P g n) : P.2.1 < n := by
  obtain ⟨⟨h1, h2, h3, h4, h5⟩, -⟩ := h
  omega
theorem tx_k (h : txd P g n) : txS σ P g sd ri pa cl nu mv men km kr li P.2.2.1 = .inl (.int, 64, .inl km) := by
  obtain ⟨⟨h1, h2, h3, h4, h5⟩, -⟩ := h
  unfold txS
  repeat rw [if_neg (by omega)]
  rw [if_pos rfl]
theorem tx_nk (h : txd P g n) : P.2.2.1 < n := by
  obtain ⟨⟨h1, h2, h3, h4, h5⟩, -⟩ := h
  omega
theorem tx_r (h : txd P g n) : txS σ P g sd ri pa cl nu mv men km kr li P.2.2.2.1 = .inl (.int, 5, .inl kr) := by
  obtain ⟨⟨h1, h2, h3, h4, h5⟩, -⟩ := h
  unfold txS
  repeat rw [if_neg (by omega)]
  rw [if_pos rfl]
theorem tx_nr (h : txd P g n) : P.2.2.2.1 < n := by
  obtain ⟨⟨h1, h2, h3, h4, h5⟩, -⟩ := h
  omega
theorem tx_l (h : txd P g n) : txS σ P g sd ri pa cl nu mv men km kr li P.2.2.2.2 = .inl (.int, 2048, .inl li) := by
  obtain ⟨⟨h1, h2, h3, h4, h5⟩, -⟩ := h
  unfold txS
  repeat rw [if_neg (by omega)]
  rw [if_pos rfl]
theorem tx_nl (h : txd P g n) : P.2.2.2.2 < n := by
  obtain ⟨⟨h1, h2, h3, h4, h5⟩, -⟩ := h
  omega
theorem tx_ut (h : txd P g n) {sd' ri' pa' cl' nu' mv' : Int32} : jup (txS σ P g sd ri pa cl nu mv men km kr li) P.1 (.inr (12, mtf g sd' ri' pa' cl' nu' mv')) = txS σ P g sd' ri' pa' cl' nu' mv' men km kr li := by
  obtain ⟨⟨h1, h2, h3, h4, h5⟩, -⟩ := h
  funext q
  by_cases hq : q = P.1
  · subst hq
    rw [jup_s]
    unfold txS
    repeat rw [if_neg (by omega)]
    rw [if_pos rfl]
  · rw [jup_n hq]
    unfold txS
    simp only [if_neg hq]
theorem tx_um (h : txd P g n) {f : Nat → Int32} : jup (txS σ P g sd ri pa cl nu mv men km kr li) P.2.1 (.inl (.int, 64, .inl f)) = txS σ P g sd ri pa cl nu mv f km kr li := by
  obtain ⟨⟨h1, h2, h3, h4, h5⟩, -⟩ := h
  funext q
  by_cases hq : q = P.2.1
  · subst hq
    rw [jup_s]
    unfold txS
    repeat rw [if_neg (by omega)]
    rw [if_pos rfl]
  · rw [jup_n hq]
    unfold txS
    simp only [if_neg hq]
theorem tx_uk (h : txd P g n) {f : Nat → Int32} : jup (txS σ P g sd ri pa cl nu mv men km kr li) P.2.2.1 (.inl (.int, 64, .inl f)) = txS σ P g sd ri pa cl nu mv men f kr li := by
  obtain ⟨⟨h1, h2, h3, h4, h5⟩, -⟩ := h
  funext q
  by_cases hq : q = P.2.2.1
  · subst hq
    rw [jup_s]
    unfold txS
    repeat rw [if_neg (by omega)]
    rw [if_pos rfl]
  · rw [jup_n hq]
    unfold txS
    simp only [if_neg hq]
theorem tx_ur (h : txd P g n) {f : Nat → Int32} : jup (txS σ P g sd ri pa cl nu mv men km kr li) P.2.2.2.1 (.inl (.int, 5, .inl f)) = txS σ P g sd ri pa cl nu mv men km f li := by
  obtain ⟨⟨h1, h2, h3, h4, h5⟩, -⟩ := h
  funext q
  by_cases hq : q = P.2.2.2.1
  · subst hq
    rw [jup_s]
    unfold txS
    repeat rw [if_neg (by omega)]
    rw [if_pos rfl]
  · rw [jup_n hq]
    unfold txS
    simp only [if_neg hq]
theorem tx_ul (h : txd P g n) {f : Nat → Int32} : jup (txS σ P g sd ri pa cl nu mv men km kr li) P.2.2.2.2 (.inl (.int, 2048, .inl f)) = txS σ P g sd ri pa cl nu mv men km kr f := by
  obtain ⟨⟨h1, h2, h3, h4, h5⟩, -⟩ := h
  funext q
  by_cases hq : q = P.2.2.2.2
  · subst hq
    rw [jup_s]
    unfold txS
    repeat rw [if_neg (by omega)]
    rw [if_pos rfl]
  · rw [jup_n hq]
    unfold txS
    simp only [if_neg hq]
end TXS
set_option maxRecDepth 100000 in
set_option maxHeartbeats 4000000 in
theorem c_MT_lose (l : Launch) (E : jE) (σ : Nat → jcell) (n : Nat) (P : txp) (g : List jv) (hd : txd P g n) (sd ri pa cl nu mv : Int32) (men km kr li : Nat → Int32) (q : Int32) : jMet l E jcl jtb lw_tbl y_MT_lose { frames := 0, cells := 0, slots := 0, locals := 0 } [.inr (.inr (some (.inl (P.1)))), .inl q] (txS σ P g sd ri pa cl nu mv men km kr li) n (fun r σ' n' => ∃ ri', r = none ∧ n' = n ∧ σ' = (txS σ P g sd ri' pa cl nu mv men km kr li)) := by
  refine jMet_of (hY := rfl) false (fun h => by cases h) (by decide) (Nat.le_of_ble_eq_true rfl) [some (.inr (.inr (some (.inl (P.1))))), some (.inl q), none] rfl ?_
  intro M hl hR X hr
  have C60 : ∀ (o2 : Option jv) (s0 : Int32), jJ E jcl 3 M (jQ E jcl M (fun r σ' n' => ∃ ri', r = none ∧ n' = n ∧ σ' = (txS σ P g sd ri' pa cl nu mv men km kr li)) 0 0) n 0 0 60 [some (.inr (.inr (some (.inl (P.1))))), some (.inl q), o2] [.inl s0] (txS σ P g sd ri pa cl nu mv men km kr li) := by
    intro o2 s0
    refine jrun_ok jC X k_MT_lose_60 60 _ _ _ o_MT_lose_60 ?_
    simp only [k_MT_lose_60, jrun, jstep, jldi, jldl, jlda, j1, j2, jl1, jl2, jli, ja1, jbr, jald, jast, jlald, jlast, jalen, jget, jput, jfit, jdup, jdupx, jdupx2, jdup2, jcat, jset1, jset2, jkill, List.getElem?_cons_zero, List.getElem?_cons_succ, List.set_cons_zero, List.set_cons_succ, List.length_cons, List.length_nil, Nat.reduceAdd, Nat.reduceLT, Int32.reduceToNatClampNeg, true_and, and_true, and_self, reduceCtorEq, not_false_eq_true, false_and, and_false, or_false, false_or, true_or, or_true, tx_t hd, tx_m hd, tx_k hd, tx_r hd, tx_l hd, tx_ut hd, tx_um hd, tx_uk hd, tx_ur hd, tx_ul hd, mtf_len hd.2.1, mtf_24, mtf_30, mtf_31, mtf_32, mtf_25 hd.2.1, mtf_26 hd.2.1, mtf_27 hd.2.1, mtf_28 hd.2.1, mtf_29 hd.2.1, mtf_33 hd.2.1, mtf_s25, mtf_s26, mtf_s27, mtf_s28, mtf_s29, mtf_s33, hd.2.2.1, hd.2.2.2.1, hd.2.2.2.2.1, hd.2.2.2.2.2, tx_nt hd, tx_nm hd, tx_nk hd, tx_nr hd, tx_nl hd, vp_nar_int32]
    refine ?_
    exact jk_vret X d_MT_lose_73 hr (Nat.le_refl _) (Nat.le_refl _) ⟨_, rfl, rfl, rfl⟩
  have C59 : ∀ (o2 : Option jv), jJ E jcl 3 M (jQ E jcl M (fun r σ' n' => ∃ ri', r = none ∧ n' = n ∧ σ' = (txS σ P g sd ri' pa cl nu mv men km kr li)) 0 0) n 0 0 59 [some (.inr (.inr (some (.inl (P.1))))), some (.inl q), o2] [] (txS σ P g sd ri pa cl nu mv men km kr li) := by
    intro o2
    refine jrun_ok jC X k_MT_lose_59 59 _ _ _ o_MT_lose_59 ?_
    simp only [k_MT_lose_59, jrun, jstep, jldi, jldl, jlda, j1, j2, jl1, jl2, jli, ja1, jbr, jald, jast, jlald, jlast, jalen, jget, jput, jfit, jdup, jdupx, jdupx2, jdup2, jcat, jset1, jset2, jkill, List.getElem?_cons_zero, List.getElem?_cons_succ, List.set_cons_zero, List.set_cons_succ, List.length_cons, List.length_nil, Nat.reduceAdd, Nat.reduceLT, Int32.reduceToNatClampNeg, true_and, and_true, and_self, reduceCtorEq, not_false_eq_true, false_and, and_false, or_false, false_or, true_or, or_true, tx_t hd, tx_m hd, tx_k hd, tx_r hd, tx_l hd, tx_ut hd, tx_um hd, tx_uk hd, tx_ur hd, tx_ul hd, mtf_len hd.2.1, mtf_24, mtf_30, mtf_31, mtf_32, mtf_25 hd.2.1, mtf_26 hd.2.1, mtf_27 hd.2.1, mtf_28 hd.2.1, mtf_29 hd.2.1, mtf_33 hd.2.1, mtf_s25, mtf_s26, mtf_s27, mtf_s28, mtf_s29, mtf_s33, hd.2.2.1, hd.2.2.2.1, hd.2.2.2.2.1, hd.2.2.2.2.2, tx_nt hd, tx_nm hd, tx_nk hd, tx_nr hd, tx_nl hd, vp_nar_int32]
    exact C60 _ _
  have C48 : ∀ (o2 : Option jv), jJ E jcl 3 M (jQ E jcl M (fun r σ' n' => ∃ ri', r = none ∧ n' = n ∧ σ' = (txS σ P g sd ri' pa cl nu mv men km kr li)) 0 0) n 0 0 48 [some (.inr (.inr (some (.inl (P.1))))), some (.inl q), o2] [] (txS σ P g sd ri pa cl nu mv men km kr li) := by
    intro o2
    refine jrun_ok jC X k_MT_lose_48 48 _ _ _ o_MT_lose_48 ?_
    simp only [k_MT_lose_48, jrun, jstep, jldi, jldl, jlda, j1, j2, jl1, jl2, jli, ja1, jbr, jald, jast, jlald, jlast, jalen, jget, jput, jfit, jdup, jdupx, jdupx2, jdup2, jcat, jset1, jset2, jkill, List.getElem?_cons_zero, List.getElem?_cons_succ, List.set_cons_zero, List.set_cons_succ, List.length_cons, List.length_nil, Nat.reduceAdd, Nat.reduceLT, Int32.reduceToNatClampNeg, true_and, and_true, and_self, reduceCtorEq, not_false_eq_true, false_and, and_false, or_false, false_or, true_or, or_true, tx_t hd, tx_m hd, tx_k hd, tx_r hd, tx_l hd, tx_ut hd, tx_um hd, tx_uk hd, tx_ur hd, tx_ul hd, mtf_len hd.2.1, mtf_24, mtf_30, mtf_31, mtf_32, mtf_25 hd.2.1, mtf_26 hd.2.1, mtf_27 hd.2.1, mtf_28 hd.2.1, mtf_29 hd.2.1, mtf_33 hd.2.1, mtf_s25, mtf_s26, mtf_s27, mtf_s28, mtf_s29, mtf_s33, hd.2.2.1, hd.2.2.2.1, hd.2.2.2.2.1, hd.2.2.2.2.2, tx_nt hd, tx_nm hd, tx_nk hd, tx_nr hd, tx_nl hd, vp_nar_int32]
    exact ⟨fun h51 => C59 _, fun h51 => C60 _ _⟩
  have C38 : ∀ (o2 : Option jv), jJ E jcl 3 M (jQ E jcl M (fun r σ' n' => ∃ ri', r = none ∧ n' = n ∧ σ' = (txS σ P g sd ri' pa cl nu mv men km kr li)) 0 0) n 0 0 38 [some (.inr (.inr (some (.inl (P.1))))), some (.inl q), o2] [] (txS σ P g sd ri pa cl nu mv men km kr li) := by
    intro o2
    refine jrun_ok jC X k_MT_lose_38 38 _ _ _ o_MT_lose_38 ?_
    simp only [k_MT_lose_38, jrun, jstep, jldi, jldl, jlda, j1, j2, jl1, jl2, jli, ja1, jbr, jald, jast, jlald, jlast, jalen, jget, jput, jfit, jdup, jdupx, jdupx2, jdup2, jcat, jset1, jset2, jkill, List.getElem?_cons_zero, List.getElem?_cons_succ, List.set_cons_zero, List.set_cons_succ, List.length_cons, List.length_nil, Nat.reduceAdd, Nat.reduceLT, Int32.reduceToNatClampNeg, true_and, and_true, and_self, reduceCtorEq, not_false_eq_true, false_and, and_false, or_false, false_or, true_or, or_true, tx_t hd, tx_m hd, tx_k hd, tx_r hd, tx_l hd, tx_ut hd, tx_um hd, tx_uk hd, tx_ur hd, tx_ul hd, mtf_len hd.2.1, mtf_24, mtf_30, mtf_31, mtf_32, mtf_25 hd.2.1, mtf_26 hd.2.1, mtf_27 hd.2.1, mtf_28 hd.2.1, mtf_29 hd.2.1, mtf_33 hd.2.1, mtf_s25, mtf_s26, mtf_s27, mtf_s28, mtf_s29, mtf_s33, hd.2.2.1, hd.2.2.2.1, hd.2.2.2.2.1, hd.2.2.2.2.2, tx_nt hd, tx_nm hd, tx_nk hd, tx_nr hd, tx_nl hd, vp_nar_int32]
    exact ⟨fun h41 => C48 _, fun h41 => C60 _ _⟩
  have C27 : ∀ (o2 : Option jv), jJ E jcl 3 M (jQ E jcl M (fun r σ' n' => ∃ ri', r = none ∧ n' = n ∧ σ' = (txS σ P g sd ri' pa cl nu mv men km kr li)) 0 0) n 0 0 27 [some (.inr (.inr (some (.inl (P.1))))), some (.inl q), o2] [] (txS σ P g sd ri pa cl nu mv men km kr li) := by
    intro o2
    refine jrun_ok jC X k_MT_lose_27 27 _ _ _ o_MT_lose_27 ?_
    simp only [k_MT_lose_27, jrun, jstep, jldi, jldl, jlda, j1, j2, jl1, jl2, jli, ja1, jbr, jald, jast, jlald, jlast, jalen, jget, jput, jfit, jdup, jdupx, jdupx2, jdup2, jcat, jset1, jset2, jkill, List.getElem?_cons_zero, List.getElem?_cons_succ, List.set_cons_zero, List.set_cons_succ, List.length_cons, List.length_nil, Nat.reduceAdd, Nat.reduceLT, Int32.reduceToNatClampNeg, true_and, and_true, and_self, reduceCtorEq, not_false_eq_true, false_and, and_false, or_false, false_or, true_or, or_true, tx_t hd, tx_m hd, tx_k hd, tx_r hd, tx_l hd, tx_ut hd, tx_um hd, tx_uk hd, tx_ur hd, tx_ul hd, mtf_len hd.2.1, mtf_24, mtf_30, mtf_31, mtf_32, mtf_25 hd.2.1, mtf_26 hd.2.1, mtf_27 hd.2.1, mtf_28 hd.2.1, mtf_29 hd.2.1, mtf_33 hd.2.1, mtf_s25, mtf_s26, mtf_s27, mtf_s28, mtf_s29, mtf_s33, hd.2.2.1, hd.2.2.2.1, hd.2.2.2.2.1, hd.2.2.2.2.2, tx_nt hd, tx_nm hd, tx_nk hd, tx_nr hd, tx_nl hd, vp_nar_int32]
    exact ⟨fun h30 => C38 _, fun h30 => C60 _ _⟩
  have C19 : ∀ (o2 : Option jv), jJ E jcl 3 M (jQ E jcl M (fun r σ' n' => ∃ ri', r = none ∧ n' = n ∧ σ' = (txS σ P g sd ri' pa cl nu mv men km kr li)) 0 0) n 0 0 19 [some (.inr (.inr (some (.inl (P.1))))), some (.inl q), o2] [] (txS σ P g sd ri pa cl nu mv men km kr li) := by
    intro o2
    refine jrun_ok jC X k_MT_lose_19 19 _ _ _ o_MT_lose_19 ?_
    simp only [k_MT_lose_19, jrun, jstep, jldi, jldl, jlda, j1, j2, jl1, jl2, jli, ja1, jbr, jald, jast, jlald, jlast, jalen, jget, jput, jfit, jdup, jdupx, jdupx2, jdup2, jcat, jset1, jset2, jkill, List.getElem?_cons_zero, List.getElem?_cons_succ, List.set_cons_zero, List.set_cons_succ, List.length_cons, List.length_nil, Nat.reduceAdd, Nat.reduceLT, Int32.reduceToNatClampNeg, true_and, and_true, and_self, reduceCtorEq, not_false_eq_true, false_and, and_false, or_false, false_or, true_or, or_true, tx_t hd, tx_m hd, tx_k hd, tx_r hd, tx_l hd, tx_ut hd, tx_um hd, tx_uk hd, tx_ur hd, tx_ul hd, mtf_len hd.2.1, mtf_24, mtf_30, mtf_31, mtf_32, mtf_25 hd.2.1, mtf_26 hd.2.1, mtf_27 hd.2.1, mtf_28 hd.2.1, mtf_29 hd.2.1, mtf_33 hd.2.1, mtf_s25, mtf_s26, mtf_s27, mtf_s28, mtf_s29, mtf_s33, hd.2.2.1, hd.2.2.2.1, hd.2.2.2.2.1, hd.2.2.2.2.2, tx_nt hd, tx_nm hd, tx_nk hd, tx_nr hd, tx_nl hd, vp_nar_int32]
    exact ⟨fun h20 => C27 _, fun h20 => C60 _ _⟩
  have C9 : ∀ (o2 : Option jv), jJ E jcl 3 M (jQ E jcl M (fun r σ' n' => ∃ ri', r = none ∧ n' = n ∧ σ' = (txS σ P g sd ri' pa cl nu mv men km kr li)) 0 0) n 0 0 9 [some (.inr (.inr (some (.inl (P.1))))), some (.inl q), o2] [] (txS σ P g sd ri pa cl nu mv men km kr li) := by
    intro o2
    refine jrun_ok jC X k_MT_lose_9 9 _ _ _ o_MT_lose_9 ?_
    simp only [k_MT_lose_9, jrun, jstep, jldi, jldl, jlda, j1, j2, jl1, jl2, jli, ja1, jbr, jald, jast, jlald, jlast, jalen, jget, jput, jfit, jdup, jdupx, jdupx2, jdup2, jcat, jset1, jset2, jkill, List.getElem?_cons_zero, List.getElem?_cons_succ, List.set_cons_zero, List.set_cons_succ, List.length_cons, List.length_nil, Nat.reduceAdd, Nat.reduceLT, Int32.reduceToNatClampNeg, true_and, and_true, and_self, reduceCtorEq, not_false_eq_true, false_and, and_false, or_false, false_or, true_or, or_true, tx_t hd, tx_m hd, tx_k hd, tx_r hd, tx_l hd, tx_ut hd, tx_um hd, tx_uk hd, tx_ur hd, tx_ul hd, mtf_len hd.2.1, mtf_24, mtf_30, mtf_31, mtf_32, mtf_25 hd.2.1, mtf_26 hd.2.1, mtf_27 hd.2.1, mtf_28 hd.2.1, mtf_29 hd.2.1, mtf_33 hd.2.1, mtf_s25, mtf_s26, mtf_s27, mtf_s28, mtf_s29, mtf_s33, hd.2.2.1, hd.2.2.2.1, hd.2.2.2.2.1, hd.2.2.2.2.2, tx_nt hd, tx_nm hd, tx_nk hd, tx_nr hd, tx_nl hd, vp_nar_int32]
    exact ⟨fun h12 => C19 _, fun h12 => C60 _ _⟩
  refine jrun_ok jC X k_MT_lose_0 0 _ _ _ o_MT_lose_0 ?_
  simp only [k_MT_lose_0, jrun, jstep, jldi, jldl, jlda, j1, j2, jl1, jl2, jli, ja1, jbr, jald, jast, jlald, jlast, jalen, jget, jput, jfit, jdup, jdupx, jdupx2, jdup2, jcat, jset1, jset2, jkill, List.getElem?_cons_zero, List.getElem?_cons_succ, List.set_cons_zero, List.set_cons_succ, List.length_cons, List.length_nil, Nat.reduceAdd, Nat.reduceLT, Int32.reduceToNatClampNeg, true_and, and_true, and_self, reduceCtorEq, not_false_eq_true, false_and, and_false, or_false, false_or, true_or, or_true, tx_t hd, tx_m hd, tx_k hd, tx_r hd, tx_l hd, tx_ut hd, tx_um hd, tx_uk hd, tx_ur hd, tx_ul hd, mtf_len hd.2.1, mtf_24, mtf_30, mtf_31, mtf_32, mtf_25 hd.2.1, mtf_26 hd.2.1, mtf_27 hd.2.1, mtf_28 hd.2.1, mtf_29 hd.2.1, mtf_33 hd.2.1, mtf_s25, mtf_s26, mtf_s27, mtf_s28, mtf_s29, mtf_s33, hd.2.2.1, hd.2.2.2.1, hd.2.2.2.2.1, hd.2.2.2.2.2, tx_nt hd, tx_nm hd, tx_nk hd, tx_nr hd, tx_nl hd, vp_nar_int32]
  exact ⟨fun h2 => C9 _, fun h2 => C60 _ _⟩
end
section
theorem i5_0 : vp_in 0 5 := by unfold vp_in; decide
theorem i5_1 : vp_in 1 5 := by unfold vp_in; decide
theorem i5_2 : vp_in 2 5 := by unfold vp_in; decide
theorem i5_3 : vp_in 3 5 := by unfold vp_in; decide
theorem i5_4 : vp_in 4 5 := by unfold vp_in; decide
theorem upd_lt {f h : Nat → Int32} {i : Nat} {v : Int32} (hf : ∀ j, j < i → f j = h j) (hv : v = h i) : ∀ j, j < i + 1 → upd f i v j = h j := by
  intro j hj
  by_cases h1 : j = i
  · subst h1
    rw [pk_us, hv]
  · rw [pk_un h1]
    exact hf j (by omega)
set_option maxRecDepth 100000 in
set_option maxHeartbeats 4000000 in
theorem c_MT_keep (l : Launch) (E : jE) (σ : Nat → jcell) (n : Nat) (P : txp) (g : List jv) (hd : txd P g n) (sd ri pa cl nu mv : Int32) (men km kr li : Nat → Int32) : jMet l E jcl jtb lw_tbl y_MT_keep { frames := 0, cells := 0, slots := 0, locals := 0 } [.inr (.inr (some (.inl (P.1))))] (txS σ P g sd ri pa cl nu mv men km kr li) n (fun r σ' n' => ∃ km' kr', (∀ j, j < 64 → km' j = men j) ∧ kr' 0 = sd ∧ kr' 1 = ri ∧ kr' 2 = pa ∧ kr' 3 = cl ∧ kr' 4 = nu ∧ r = none ∧ n' = n ∧ σ' = (txS σ P g sd ri pa cl nu mv men km' kr' li)) := by
  refine jMet_of (hY := rfl) false (fun h => by cases h) (by decide) (Nat.le_of_ble_eq_true rfl) [some (.inr (.inr (some (.inl (P.1))))), none] rfl ?_
  intro M hl hR X hr
  have hloop : ∀ (u i : Nat) (f : Nat → Int32), i + u = 64 → (∀ j, j < i → f j = men j) → jJ E jcl 2 M (jQ E jcl M (fun r σ' n' => ∃ km' kr', (∀ j, j < 64 → km' j = men j) ∧ kr' 0 = sd ∧ kr' 1 = ri ∧ kr' 2 = pa ∧ kr' 3 = cl ∧ kr' 4 = nu ∧ r = none ∧ n' = n ∧ σ' = (txS σ P g sd ri pa cl nu mv men km' kr' li)) 0 0) n 0 0 2 [some (.inr (.inr (some (.inl (P.1))))), some (.inl (nI i))] [] (txS σ P g sd ri pa cl nu mv men f kr li) := by
    intro u
    induction u with
    | zero =>
      intro i f hi hf
      obtain rfl : i = 64 := by omega
      refine jrun_ok jC X k_MT_keep_2 2 _ _ _ o_MT_keep_2 ?_
      simp only [k_MT_keep_2, jrun, jstep, jldi, jldl, jlda, j1, j2, jl1, jl2, jli, ja1, jbr, jald, jast, jlald, jlast, jalen, jget, jput, jfit, jdup, jdupx, jdupx2, jdup2, jcat, jset1, jset2, jkill, List.getElem?_cons_zero, List.getElem?_cons_succ, List.set_cons_zero, List.set_cons_succ, List.length_cons, List.length_nil, Nat.reduceAdd, Nat.reduceLT, Int32.reduceToNatClampNeg, true_and, and_true, and_self, reduceCtorEq, not_false_eq_true, false_and, and_false, or_false, false_or, true_or, or_true, tx_t hd, tx_m hd, tx_k hd, tx_r hd, tx_l hd, tx_ut hd, tx_um hd, tx_uk hd, tx_ur hd, tx_ul hd, mtf_len hd.2.1, mtf_24, mtf_30, mtf_31, mtf_32, mtf_25 hd.2.1, mtf_26 hd.2.1, mtf_27 hd.2.1, mtf_28 hd.2.1, mtf_29 hd.2.1, mtf_33 hd.2.1, mtf_s25, mtf_s26, mtf_s27, mtf_s28, mtf_s29, mtf_s33, hd.2.2.1, hd.2.2.2.1, hd.2.2.2.2.1, hd.2.2.2.2.2, tx_nt hd, tx_nm hd, tx_nk hd, tx_nr hd, tx_nl hd, vp_nar_int32]
      refine ⟨fun _ => ?_, fun h => absurd (by decide) h⟩
      refine jrun_ok jC X k_MT_keep_26 26 _ _ _ o_MT_keep_26 ?_
      simp only [k_MT_keep_26, jrun, jstep, jldi, jldl, jlda, j1, j2, jl1, jl2, jli, ja1, jbr, jald, jast, jlald, jlast, jalen, jget, jput, jfit, jdup, jdupx, jdupx2, jdup2, jcat, jset1, jset2, jkill, List.getElem?_cons_zero, List.getElem?_cons_succ, List.set_cons_zero, List.set_cons_succ, List.length_cons, List.length_nil, Nat.reduceAdd, Nat.reduceLT, Int32.reduceToNatClampNeg, true_and, and_true, and_self, reduceCtorEq, not_false_eq_true, false_and, and_false, or_false, false_or, true_or, or_true, tx_t hd, tx_m hd, tx_k hd, tx_r hd, tx_l hd, tx_ut hd, tx_um hd, tx_uk hd, tx_ur hd, tx_ul hd, mtf_len hd.2.1, mtf_24, mtf_30, mtf_31, mtf_32, mtf_25 hd.2.1, mtf_26 hd.2.1, mtf_27 hd.2.1, mtf_28 hd.2.1, mtf_29 hd.2.1, mtf_33 hd.2.1, mtf_s25, mtf_s26, mtf_s27, mtf_s28, mtf_s29, mtf_s33, hd.2.2.1, hd.2.2.2.1, hd.2.2.2.2.1, hd.2.2.2.2.2, tx_nt hd, tx_nm hd, tx_nk hd, tx_nr hd, tx_nl hd, vp_nar_int32, i5_0, i5_1, i5_2, i5_3, i5_4]
      exact jk_vret X d_MT_keep_76 hr (Nat.le_refl _) (Nat.le_refl _) ⟨f, _, hf, rfl, rfl, rfl, rfl, rfl, rfl, rfl, rfl⟩
    | succ u ih =>
      intro i f hi hf
      have hge : ¬ (64 : Int32) ≤ nI i := by
        rw [show (64 : Int32) = nI 64 from rfl, nI_leI (by omega) (by omega)]; omega
      have hci : (nI i).toNatClampNeg = i := nI_clamp (by omega)
      refine jrun_ok jC X k_MT_keep_2 2 _ _ _ o_MT_keep_2 ?_
      simp only [k_MT_keep_2, jrun, jstep, jldi, jldl, jlda, j1, j2, jl1, jl2, jli, ja1, jbr, jald, jast, jlald, jlast, jalen, jget, jput, jfit, jdup, jdupx, jdupx2, jdup2, jcat, jset1, jset2, jkill, List.getElem?_cons_zero, List.getElem?_cons_succ, List.set_cons_zero, List.set_cons_succ, List.length_cons, List.length_nil, Nat.reduceAdd, Nat.reduceLT, Int32.reduceToNatClampNeg, true_and, and_true, and_self, reduceCtorEq, not_false_eq_true, false_and, and_false, or_false, false_or, true_or, or_true, tx_t hd, tx_m hd, tx_k hd, tx_r hd, tx_l hd, tx_ut hd, tx_um hd, tx_uk hd, tx_ur hd, tx_ul hd, mtf_len hd.2.1, mtf_24, mtf_30, mtf_31, mtf_32, mtf_25 hd.2.1, mtf_26 hd.2.1, mtf_27 hd.2.1, mtf_28 hd.2.1, mtf_29 hd.2.1, mtf_33 hd.2.1, mtf_s25, mtf_s26, mtf_s27, mtf_s28, mtf_s29, mtf_s33, hd.2.2.1, hd.2.2.2.1, hd.2.2.2.2.1, hd.2.2.2.2.2, tx_nt hd, tx_nm hd, tx_nk hd, tx_nr hd, tx_nl hd, vp_nar_int32, hci]
      refine ⟨fun h => absurd h hge, fun _ => ⟨vp_in_nI (by omega) (by omega), vp_in_nI (by omega) (by omega), ?_⟩⟩
      rw [nI_1]
      exact ih (i + 1) _ (by omega) (upd_lt hf rfl)
  refine jrun_ok jC X k_MT_keep_0 0 _ _ _ o_MT_keep_0 ?_
  simp only [k_MT_keep_0, jrun, jstep, jldi, jldl, jlda, j1, j2, jl1, jl2, jli, ja1, jbr, jald, jast, jlald, jlast, jalen, jget, jput, jfit, jdup, jdupx, jdupx2, jdup2, jcat, jset1, jset2, jkill, List.getElem?_cons_zero, List.getElem?_cons_succ, List.set_cons_zero, List.set_cons_succ, List.length_cons, List.length_nil, Nat.reduceAdd, Nat.reduceLT, Int32.reduceToNatClampNeg, true_and, and_true, and_self, reduceCtorEq, not_false_eq_true, false_and, and_false, or_false, false_or, true_or, or_true, tx_t hd, tx_m hd, tx_k hd, tx_r hd, tx_l hd, tx_ut hd, tx_um hd, tx_uk hd, tx_ur hd, tx_ul hd, mtf_len hd.2.1, mtf_24, mtf_30, mtf_31, mtf_32, mtf_25 hd.2.1, mtf_26 hd.2.1, mtf_27 hd.2.1, mtf_28 hd.2.1, mtf_29 hd.2.1, mtf_33 hd.2.1, mtf_s25, mtf_s26, mtf_s27, mtf_s28, mtf_s29, mtf_s33, hd.2.2.1, hd.2.2.2.1, hd.2.2.2.2.1, hd.2.2.2.2.2, tx_nt hd, tx_nm hd, tx_nk hd, tx_nr hd, tx_nl hd, vp_nar_int32]
  exact hloop 64 0 km (by omega) (fun j hj => absurd hj (by omega))
set_option maxRecDepth 100000 in
set_option maxHeartbeats 4000000 in
theorem c_MT_bringBack (l : Launch) (E : jE) (σ : Nat → jcell) (n : Nat) (P : txp) (g : List jv) (hd : txd P g n) (sd ri pa cl nu mv : Int32) (men km kr li : Nat → Int32) : jMet l E jcl jtb lw_tbl y_MT_bringBack { frames := 0, cells := 0, slots := 0, locals := 0 } [.inr (.inr (some (.inl (P.1))))] (txS σ P g sd ri pa cl nu mv men km kr li) n (fun r σ' n' => ∃ men', (∀ j, j < 64 → men' j = km j) ∧ r = none ∧ n' = n ∧ σ' = (txS σ P g (kr 0) (kr 1) (kr 2) (kr 3) (kr 4) mv men' km kr li)) := by
  refine jMet_of (hY := rfl) false (fun h => by cases h) (by decide) (Nat.le_of_ble_eq_true rfl) [some (.inr (.inr (some (.inl (P.1))))), none] rfl ?_
  intro M hl hR X hr
  have hloop : ∀ (u i : Nat) (f : Nat → Int32), i + u = 64 → (∀ j, j < i → f j = km j) → jJ E jcl 2 M (jQ E jcl M (fun r σ' n' => ∃ men', (∀ j, j < 64 → men' j = km j) ∧ r = none ∧ n' = n ∧ σ' = (txS σ P g (kr 0) (kr 1) (kr 2) (kr 3) (kr 4) mv men' km kr li)) 0 0) n 0 0 2 [some (.inr (.inr (some (.inl (P.1))))), some (.inl (nI i))] [] (txS σ P g sd ri pa cl nu mv f km kr li) := by
    intro u
    induction u with
    | zero =>
      intro i f hi hf
      obtain rfl : i = 64 := by omega
      refine jrun_ok jC X k_MT_bringBack_2 2 _ _ _ o_MT_bringBack_2 ?_
      simp only [k_MT_bringBack_2, jrun, jstep, jldi, jldl, jlda, j1, j2, jl1, jl2, jli, ja1, jbr, jald, jast, jlald, jlast, jalen, jget, jput, jfit, jdup, jdupx, jdupx2, jdup2, jcat, jset1, jset2, jkill, List.getElem?_cons_zero, List.getElem?_cons_succ, List.set_cons_zero, List.set_cons_succ, List.length_cons, List.length_nil, Nat.reduceAdd, Nat.reduceLT, Int32.reduceToNatClampNeg, true_and, and_true, and_self, reduceCtorEq, not_false_eq_true, false_and, and_false, or_false, false_or, true_or, or_true, tx_t hd, tx_m hd, tx_k hd, tx_r hd, tx_l hd, tx_ut hd, tx_um hd, tx_uk hd, tx_ur hd, tx_ul hd, mtf_len hd.2.1, mtf_24, mtf_30, mtf_31, mtf_32, mtf_25 hd.2.1, mtf_26 hd.2.1, mtf_27 hd.2.1, mtf_28 hd.2.1, mtf_29 hd.2.1, mtf_33 hd.2.1, mtf_s25, mtf_s26, mtf_s27, mtf_s28, mtf_s29, mtf_s33, hd.2.2.1, hd.2.2.2.1, hd.2.2.2.2.1, hd.2.2.2.2.2, tx_nt hd, tx_nm hd, tx_nk hd, tx_nr hd, tx_nl hd, vp_nar_int32]
      refine ⟨fun _ => ?_, fun h => absurd (by decide) h⟩
      refine jrun_ok jC X k_MT_bringBack_26 26 _ _ _ o_MT_bringBack_26 ?_
      simp only [k_MT_bringBack_26, jrun, jstep, jldi, jldl, jlda, j1, j2, jl1, jl2, jli, ja1, jbr, jald, jast, jlald, jlast, jalen, jget, jput, jfit, jdup, jdupx, jdupx2, jdup2, jcat, jset1, jset2, jkill, List.getElem?_cons_zero, List.getElem?_cons_succ, List.set_cons_zero, List.set_cons_succ, List.length_cons, List.length_nil, Nat.reduceAdd, Nat.reduceLT, Int32.reduceToNatClampNeg, true_and, and_true, and_self, reduceCtorEq, not_false_eq_true, false_and, and_false, or_false, false_or, true_or, or_true, tx_t hd, tx_m hd, tx_k hd, tx_r hd, tx_l hd, tx_ut hd, tx_um hd, tx_uk hd, tx_ur hd, tx_ul hd, mtf_len hd.2.1, mtf_24, mtf_30, mtf_31, mtf_32, mtf_25 hd.2.1, mtf_26 hd.2.1, mtf_27 hd.2.1, mtf_28 hd.2.1, mtf_29 hd.2.1, mtf_33 hd.2.1, mtf_s25, mtf_s26, mtf_s27, mtf_s28, mtf_s29, mtf_s33, hd.2.2.1, hd.2.2.2.1, hd.2.2.2.2.1, hd.2.2.2.2.2, tx_nt hd, tx_nm hd, tx_nk hd, tx_nr hd, tx_nl hd, vp_nar_int32, i5_0, i5_1, i5_2, i5_3, i5_4]
      exact jk_vret X d_MT_bringBack_76 hr (Nat.le_refl _) (Nat.le_refl _) ⟨f, hf, rfl, rfl, rfl⟩
    | succ u ih =>
      intro i f hi hf
      have hge : ¬ (64 : Int32) ≤ nI i := by
        rw [show (64 : Int32) = nI 64 from rfl, nI_leI (by omega) (by omega)]; omega
      have hci : (nI i).toNatClampNeg = i := nI_clamp (by omega)
      refine jrun_ok jC X k_MT_bringBack_2 2 _ _ _ o_MT_bringBack_2 ?_
      simp only [k_MT_bringBack_2, jrun, jstep, jldi, jldl, jlda, j1, j2, jl1, jl2, jli, ja1, jbr, jald, jast, jlald, jlast, jalen, jget, jput, jfit, jdup, jdupx, jdupx2, jdup2, jcat, jset1, jset2, jkill, List.getElem?_cons_zero, List.getElem?_cons_succ, List.set_cons_zero, List.set_cons_succ, List.length_cons, List.length_nil, Nat.reduceAdd, Nat.reduceLT, Int32.reduceToNatClampNeg, true_and, and_true, and_self, reduceCtorEq, not_false_eq_true, false_and, and_false, or_false, false_or, true_or, or_true, tx_t hd, tx_m hd, tx_k hd, tx_r hd, tx_l hd, tx_ut hd, tx_um hd, tx_uk hd, tx_ur hd, tx_ul hd, mtf_len hd.2.1, mtf_24, mtf_30, mtf_31, mtf_32, mtf_25 hd.2.1, mtf_26 hd.2.1, mtf_27 hd.2.1, mtf_28 hd.2.1, mtf_29 hd.2.1, mtf_33 hd.2.1, mtf_s25, mtf_s26, mtf_s27, mtf_s28, mtf_s29, mtf_s33, hd.2.2.1, hd.2.2.2.1, hd.2.2.2.2.1, hd.2.2.2.2.2, tx_nt hd, tx_nm hd, tx_nk hd, tx_nr hd, tx_nl hd, vp_nar_int32, hci]
      refine ⟨fun h => absurd h hge, fun _ => ⟨vp_in_nI (by omega) (by omega), vp_in_nI (by omega) (by omega), ?_⟩⟩
      rw [nI_1]
      exact ih (i + 1) _ (by omega) (upd_lt hf rfl)
  refine jrun_ok jC X k_MT_bringBack_0 0 _ _ _ o_MT_bringBack_0 ?_
  simp only [k_MT_bringBack_0, jrun, jstep, jldi, jldl, jlda, j1, j2, jl1, jl2, jli, ja1, jbr, jald, jast, jlald, jlast, jalen, jget, jput, jfit, jdup, jdupx, jdupx2, jdup2, jcat, jset1, jset2, jkill, List.getElem?_cons_zero, List.getElem?_cons_succ, List.set_cons_zero, List.set_cons_succ, List.length_cons, List.length_nil, Nat.reduceAdd, Nat.reduceLT, Int32.reduceToNatClampNeg, true_and, and_true, and_self, reduceCtorEq, not_false_eq_true, false_and, and_false, or_false, false_or, true_or, or_true, tx_t hd, tx_m hd, tx_k hd, tx_r hd, tx_l hd, tx_ut hd, tx_um hd, tx_uk hd, tx_ur hd, tx_ul hd, mtf_len hd.2.1, mtf_24, mtf_30, mtf_31, mtf_32, mtf_25 hd.2.1, mtf_26 hd.2.1, mtf_27 hd.2.1, mtf_28 hd.2.1, mtf_29 hd.2.1, mtf_33 hd.2.1, mtf_s25, mtf_s26, mtf_s27, mtf_s28, mtf_s29, mtf_s33, hd.2.2.1, hd.2.2.2.1, hd.2.2.2.2.1, hd.2.2.2.2.2, tx_nt hd, tx_nm hd, tx_nk hd, tx_nr hd, tx_nl hd, vp_nar_int32]
  exact hloop 64 0 men (by omega) (fun j hj => absurd hj (by omega))
end
section
set_option maxRecDepth 100000 in
theorem mk_1 : ∀ a, a < 64 → ∀ b, b < 64 → ¬ (nI a / 8 * 8 + (nI b - nI b / 8 * 8) < 0 ∨ 64 ≤ (nI a / 8 * 8 + (nI b - nI b / 8 * 8)).toNatClampNeg) := by decide +kernel
set_option maxRecDepth 100000 in
theorem mk_2 : ∀ a, a < 64 → nI a - nI a / 8 * 8 = 4 → ¬ (nI a + 3 < 0 ∨ 64 ≤ (nI a + 3).toNatClampNeg) ∧ ¬ (nI a - 4 < 0 ∨ 64 ≤ (nI a - 4).toNatClampNeg) := by decide +kernel
set_option maxRecDepth 100000 in
theorem mk_3 : ∀ a, a < 64 → ∀ b, b < 64 → ¬ ((nI a + nI b) / 2 < 0 ∨ 64 ≤ ((nI a + nI b) / 2).toNatClampNeg) := by decide +kernel
theorem sd_1 {x : Int32} (h : x = 0 ∨ x = 1) : 1 - x = 0 ∨ 1 - x = 1 := by rcases h with rfl | rfl <;> decide
set_option maxRecDepth 100000 in
set_option maxHeartbeats 4000000 in
/-- a move is made: the picture moves, its side stays one of two -/
theorem c_MT_make (l : Launch) (E : jE) (σ : Nat → jcell) (n : Nat) (P : txp) (g : List jv) (hd : txd P g n) (sd ri pa cl nu mv : Int32) (men km kr li : Nat → Int32) (hsd : sd = 0 ∨ sd = 1) (mo : Int32) (a b : Nat) (ha : a < 64) (hb : b < 64) (efr : mo - mo / 64 * 64 = nI a) (eto : mo / 64 - mo / 64 / 64 * 64 = nI b) : jMet l E jcl jtb lw_tbl y_MT_make { frames := 2, cells := 0, slots := 0, locals := 90 } [.inr (.inr (some (.inl (P.1)))), .inl mo] (txS σ P g sd ri pa cl nu mv men km kr li) n (fun r σ' n' => ∃ sd' ri' pa' cl' nu' men', (sd' = 0 ∨ sd' = 1) ∧ r = none ∧ n' = n ∧ σ' = (txS σ P g sd' ri' pa' cl' nu' mv men' km kr li)) := by
  refine jMet_of (hY := rfl) false (fun h => by cases h) (by decide) (Nat.le_of_ble_eq_true rfl) [some (.inr (.inr (some (.inl (P.1))))), some (.inl mo), none, none, none, none, none, none] rfl ?_
  intro M hl hR X hr
  have C319 : ∀ (xs : Int32) (xr : Int32) (xp : Int32) (xc : Int32) (xn : Int32) (xm : Nat → Int32) (v4 : Int32) (v5 : Int32) (v6 : Int32) (o7 : Option jv), (xs = 0 ∨ xs = 1) → jJ E jcl 8 M (jQ E jcl M (fun r σ' n' => ∃ sd' ri' pa' cl' nu' men', (sd' = 0 ∨ sd' = 1) ∧ r = none ∧ n' = n ∧ σ' = (txS σ P g sd' ri' pa' cl' nu' mv men' km kr li)) 0 0) n 0 0 319 [some (.inr (.inr (some (.inl (P.1))))), some (.inl mo), some (.inl (nI a)), some (.inl (nI b)), some (.inl v4), some (.inl v5), some (.inl v6), o7] [] (txS σ P g xs xr xp xc xn mv xm km kr li) := by
    intro xs xr xp xc xn xm v4 v5 v6 o7 c0
    refine jrun_ok jC X k_MT_make_319 319 _ _ _ o_MT_make_319 ?_
    simp only [k_MT_make_319, jrun, jstep, jldi, jldl, jlda, j1, j2, jl1, jl2, jli, ja1, jbr, jald, jast, jlald, jlast, jalen, jget, jput, jfit, jdup, jdupx, jdupx2, jdup2, jcat, jset1, jset2, jkill, List.getElem?_cons_zero, List.getElem?_cons_succ, List.set_cons_zero, List.set_cons_succ, List.length_cons, List.length_nil, Nat.reduceAdd, Nat.reduceLT, Int32.reduceToNatClampNeg, true_and, and_true, and_self, reduceCtorEq, not_false_eq_true, false_and, and_false, or_false, false_or, true_or, or_true, tx_t hd, tx_m hd, tx_k hd, tx_r hd, tx_l hd, tx_ut hd, tx_um hd, tx_uk hd, tx_ur hd, tx_ul hd, mtf_len hd.2.1, mtf_24, mtf_30, mtf_31, mtf_32, mtf_25 hd.2.1, mtf_26 hd.2.1, mtf_27 hd.2.1, mtf_28 hd.2.1, mtf_29 hd.2.1, mtf_33 hd.2.1, mtf_s25, mtf_s26, mtf_s27, mtf_s28, mtf_s29, mtf_s33, hd.2.2.1, hd.2.2.2.1, hd.2.2.2.2.1, hd.2.2.2.2.2, tx_nt hd, tx_nm hd, tx_nk hd, tx_nr hd, tx_nl hd, vp_nar_int32, efr, eto]
    refine ?_
    exact jk_vret X d_MT_make_342 hr (Nat.le_refl _) (Nat.le_refl _) ⟨_, _, _, _, _, _, sd_1 (by assumption), rfl, rfl, rfl⟩
  have C316 : ∀ (xs : Int32) (xr : Int32) (xp : Int32) (xc : Int32) (xn : Int32) (xm : Nat → Int32) (v4 : Int32) (v5 : Int32) (v6 : Int32) (v7 : Int32) (s1 : Int32), (xs = 0 ∨ xs = 1) → jJ E jcl 8 M (jQ E jcl M (fun r σ' n' => ∃ sd' ri' pa' cl' nu' men', (sd' = 0 ∨ sd' = 1) ∧ r = none ∧ n' = n ∧ σ' = (txS σ P g sd' ri' pa' cl' nu' mv men' km kr li)) 0 0) n 0 0 316 [some (.inr (.inr (some (.inl (P.1))))), some (.inl mo), some (.inl (nI a)), some (.inl (nI b)), some (.inl v4), some (.inl v5), some (.inl v6), some (.inl v7)] [.inl s1, .inr (.inr (some (.inl (P.1))))] (txS σ P g xs xr xp xc xn mv xm km kr li) := by
    intro xs xr xp xc xn xm v4 v5 v6 v7 s1 c0
    refine jrun_ok jC X k_MT_make_316 316 _ _ _ o_MT_make_316 ?_
    simp only [k_MT_make_316, jrun, jstep, jldi, jldl, jlda, j1, j2, jl1, jl2, jli, ja1, jbr, jald, jast, jlald, jlast, jalen, jget, jput, jfit, jdup, jdupx, jdupx2, jdup2, jcat, jset1, jset2, jkill, List.getElem?_cons_zero, List.getElem?_cons_succ, List.set_cons_zero, List.set_cons_succ, List.length_cons, List.length_nil, Nat.reduceAdd, Nat.reduceLT, Int32.reduceToNatClampNeg, true_and, and_true, and_self, reduceCtorEq, not_false_eq_true, false_and, and_false, or_false, false_or, true_or, or_true, tx_t hd, tx_m hd, tx_k hd, tx_r hd, tx_l hd, tx_ut hd, tx_um hd, tx_uk hd, tx_ur hd, tx_ul hd, mtf_len hd.2.1, mtf_24, mtf_30, mtf_31, mtf_32, mtf_25 hd.2.1, mtf_26 hd.2.1, mtf_27 hd.2.1, mtf_28 hd.2.1, mtf_29 hd.2.1, mtf_33 hd.2.1, mtf_s25, mtf_s26, mtf_s27, mtf_s28, mtf_s29, mtf_s33, hd.2.2.1, hd.2.2.2.1, hd.2.2.2.2.1, hd.2.2.2.2.2, tx_nt hd, tx_nm hd, tx_nk hd, tx_nr hd, tx_nl hd, vp_nar_int32, efr, eto]
    exact C319 _ _ _ _ _ _ _ _ _ _ (by assumption)
  have C315 : ∀ (xs : Int32) (xr : Int32) (xp : Int32) (xc : Int32) (xn : Int32) (xm : Nat → Int32) (v4 : Int32) (v5 : Int32) (v6 : Int32) (v7 : Int32), (xs = 0 ∨ xs = 1) → jJ E jcl 8 M (jQ E jcl M (fun r σ' n' => ∃ sd' ri' pa' cl' nu' men', (sd' = 0 ∨ sd' = 1) ∧ r = none ∧ n' = n ∧ σ' = (txS σ P g sd' ri' pa' cl' nu' mv men' km kr li)) 0 0) n 0 0 315 [some (.inr (.inr (some (.inl (P.1))))), some (.inl mo), some (.inl (nI a)), some (.inl (nI b)), some (.inl v4), some (.inl v5), some (.inl v6), some (.inl v7)] [.inr (.inr (some (.inl (P.1))))] (txS σ P g xs xr xp xc xn mv xm km kr li) := by
    intro xs xr xp xc xn xm v4 v5 v6 v7 c0
    refine jrun_ok jC X k_MT_make_315 315 _ _ _ o_MT_make_315 ?_
    simp only [k_MT_make_315, jrun, jstep, jldi, jldl, jlda, j1, j2, jl1, jl2, jli, ja1, jbr, jald, jast, jlald, jlast, jalen, jget, jput, jfit, jdup, jdupx, jdupx2, jdup2, jcat, jset1, jset2, jkill, List.getElem?_cons_zero, List.getElem?_cons_succ, List.set_cons_zero, List.set_cons_succ, List.length_cons, List.length_nil, Nat.reduceAdd, Nat.reduceLT, Int32.reduceToNatClampNeg, true_and, and_true, and_self, reduceCtorEq, not_false_eq_true, false_and, and_false, or_false, false_or, true_or, or_true, tx_t hd, tx_m hd, tx_k hd, tx_r hd, tx_l hd, tx_ut hd, tx_um hd, tx_uk hd, tx_ur hd, tx_ul hd, mtf_len hd.2.1, mtf_24, mtf_30, mtf_31, mtf_32, mtf_25 hd.2.1, mtf_26 hd.2.1, mtf_27 hd.2.1, mtf_28 hd.2.1, mtf_29 hd.2.1, mtf_33 hd.2.1, mtf_s25, mtf_s26, mtf_s27, mtf_s28, mtf_s29, mtf_s33, hd.2.2.1, hd.2.2.2.1, hd.2.2.2.2.1, hd.2.2.2.2.2, tx_nt hd, tx_nm hd, tx_nk hd, tx_nr hd, tx_nl hd, vp_nar_int32, efr, eto]
    exact C316 _ _ _ _ _ _ _ _ _ _ _ (by assumption)
  have C307 : ∀ (xs : Int32) (xr : Int32) (xp : Int32) (xc : Int32) (xn : Int32) (xm : Nat → Int32) (v4 : Int32) (v5 : Int32) (v6 : Int32) (v7 : Int32), (xs = 0 ∨ xs = 1) → jJ E jcl 8 M (jQ E jcl M (fun r σ' n' => ∃ sd' ri' pa' cl' nu' men', (sd' = 0 ∨ sd' = 1) ∧ r = none ∧ n' = n ∧ σ' = (txS σ P g sd' ri' pa' cl' nu' mv men' km kr li)) 0 0) n 0 0 307 [some (.inr (.inr (some (.inl (P.1))))), some (.inl mo), some (.inl (nI a)), some (.inl (nI b)), some (.inl v4), some (.inl v5), some (.inl v6), some (.inl v7)] [.inr (.inr (some (.inl (P.1))))] (txS σ P g xs xr xp xc xn mv xm km kr li) := by
    intro xs xr xp xc xn xm v4 v5 v6 v7 c0
    refine jrun_ok jC X k_MT_make_307 307 _ _ _ o_MT_make_307 ?_
    simp only [k_MT_make_307, jrun, jstep, jldi, jldl, jlda, j1, j2, jl1, jl2, jli, ja1, jbr, jald, jast, jlald, jlast, jalen, jget, jput, jfit, jdup, jdupx, jdupx2, jdup2, jcat, jset1, jset2, jkill, List.getElem?_cons_zero, List.getElem?_cons_succ, List.set_cons_zero, List.set_cons_succ, List.length_cons, List.length_nil, Nat.reduceAdd, Nat.reduceLT, Int32.reduceToNatClampNeg, true_and, and_true, and_self, reduceCtorEq, not_false_eq_true, false_and, and_false, or_false, false_or, true_or, or_true, tx_t hd, tx_m hd, tx_k hd, tx_r hd, tx_l hd, tx_ut hd, tx_um hd, tx_uk hd, tx_ur hd, tx_ul hd, mtf_len hd.2.1, mtf_24, mtf_30, mtf_31, mtf_32, mtf_25 hd.2.1, mtf_26 hd.2.1, mtf_27 hd.2.1, mtf_28 hd.2.1, mtf_29 hd.2.1, mtf_33 hd.2.1, mtf_s25, mtf_s26, mtf_s27, mtf_s28, mtf_s29, mtf_s33, hd.2.2.1, hd.2.2.2.1, hd.2.2.2.2.1, hd.2.2.2.2.2, tx_nt hd, tx_nm hd, tx_nk hd, tx_nr hd, tx_nl hd, vp_nar_int32, efr, eto]
    exact ⟨by decide, C316 _ _ _ _ _ _ _ _ _ _ _ (by assumption)⟩
  have C304 : ∀ (xs : Int32) (xr : Int32) (xp : Int32) (xc : Int32) (xn : Int32) (xm : Nat → Int32) (v4 : Int32) (v5 : Int32) (v6 : Int32) (v7 : Int32) (s1 : Int32), (xs = 0 ∨ xs = 1) → jJ E jcl 8 M (jQ E jcl M (fun r σ' n' => ∃ sd' ri' pa' cl' nu' men', (sd' = 0 ∨ sd' = 1) ∧ r = none ∧ n' = n ∧ σ' = (txS σ P g sd' ri' pa' cl' nu' mv men' km kr li)) 0 0) n 0 0 304 [some (.inr (.inr (some (.inl (P.1))))), some (.inl mo), some (.inl (nI a)), some (.inl (nI b)), some (.inl v4), some (.inl v5), some (.inl v6), some (.inl v7)] [.inl s1, .inr (.inr (some (.inl (P.1))))] (txS σ P g xs xr xp xc xn mv xm km kr li) := by
    intro xs xr xp xc xn xm v4 v5 v6 v7 s1 c0
    refine jrun_ok jC X k_MT_make_304 304 _ _ _ o_MT_make_304 ?_
    simp only [k_MT_make_304, jrun, jstep, jldi, jldl, jlda, j1, j2, jl1, jl2, jli, ja1, jbr, jald, jast, jlald, jlast, jalen, jget, jput, jfit, jdup, jdupx, jdupx2, jdup2, jcat, jset1, jset2, jkill, List.getElem?_cons_zero, List.getElem?_cons_succ, List.set_cons_zero, List.set_cons_succ, List.length_cons, List.length_nil, Nat.reduceAdd, Nat.reduceLT, Int32.reduceToNatClampNeg, true_and, and_true, and_self, reduceCtorEq, not_false_eq_true, false_and, and_false, or_false, false_or, true_or, or_true, tx_t hd, tx_m hd, tx_k hd, tx_r hd, tx_l hd, tx_ut hd, tx_um hd, tx_uk hd, tx_ur hd, tx_ul hd, mtf_len hd.2.1, mtf_24, mtf_30, mtf_31, mtf_32, mtf_25 hd.2.1, mtf_26 hd.2.1, mtf_27 hd.2.1, mtf_28 hd.2.1, mtf_29 hd.2.1, mtf_33 hd.2.1, mtf_s25, mtf_s26, mtf_s27, mtf_s28, mtf_s29, mtf_s33, hd.2.2.1, hd.2.2.2.1, hd.2.2.2.2.1, hd.2.2.2.2.2, tx_nt hd, tx_nm hd, tx_nk hd, tx_nr hd, tx_nl hd, vp_nar_int32, efr, eto]
    exact ⟨fun h304 => C315 _ _ _ _ _ _ _ _ _ _ (by assumption), fun h304 => C307 _ _ _ _ _ _ _ _ _ _ (by assumption)⟩
  have C299 : ∀ (xs : Int32) (xr : Int32) (xp : Int32) (xc : Int32) (xn : Int32) (xm : Nat → Int32) (v4 : Int32) (v5 : Int32) (v6 : Int32) (v7 : Int32) (s2 : Int32), (xs = 0 ∨ xs = 1) → (s2 < 0 ∨ vp_in s2 64) → jJ E jcl 8 M (jQ E jcl M (fun r σ' n' => ∃ sd' ri' pa' cl' nu' men', (sd' = 0 ∨ sd' = 1) ∧ r = none ∧ n' = n ∧ σ' = (txS σ P g sd' ri' pa' cl' nu' mv men' km kr li)) 0 0) n 0 0 299 [some (.inr (.inr (some (.inl (P.1))))), some (.inl mo), some (.inl (nI a)), some (.inl (nI b)), some (.inl v4), some (.inl v5), some (.inl v6), some (.inl v7)] [.inl s2, .inr (.inr (some (.inl (P.1)))), .inr (.inr (some (.inl (P.1))))] (txS σ P g xs xr xp xc xn mv xm km kr li) := by
    intro xs xr xp xc xn xm v4 v5 v6 v7 s2 c0 c1
    refine jrun_ok jC X k_MT_make_299 299 _ _ _ o_MT_make_299 ?_
    simp only [k_MT_make_299, jrun, jstep, jldi, jldl, jlda, j1, j2, jl1, jl2, jli, ja1, jbr, jald, jast, jlald, jlast, jalen, jget, jput, jfit, jdup, jdupx, jdupx2, jdup2, jcat, jset1, jset2, jkill, List.getElem?_cons_zero, List.getElem?_cons_succ, List.set_cons_zero, List.set_cons_succ, List.length_cons, List.length_nil, Nat.reduceAdd, Nat.reduceLT, Int32.reduceToNatClampNeg, true_and, and_true, and_self, reduceCtorEq, not_false_eq_true, false_and, and_false, or_false, false_or, true_or, or_true, tx_t hd, tx_m hd, tx_k hd, tx_r hd, tx_l hd, tx_ut hd, tx_um hd, tx_uk hd, tx_ur hd, tx_ul hd, mtf_len hd.2.1, mtf_24, mtf_30, mtf_31, mtf_32, mtf_25 hd.2.1, mtf_26 hd.2.1, mtf_27 hd.2.1, mtf_28 hd.2.1, mtf_29 hd.2.1, mtf_33 hd.2.1, mtf_s25, mtf_s26, mtf_s27, mtf_s28, mtf_s29, mtf_s33, hd.2.2.1, hd.2.2.2.1, hd.2.2.2.2.1, hd.2.2.2.2.2, tx_nt hd, tx_nm hd, tx_nk hd, tx_nr hd, tx_nl hd, vp_nar_int32, efr, eto]
    refine ?_
    refine jk_Vi X hR d_MT_make_301 q_MT_make_301 m_MT_stands i_MT_stands e_MT_stands (ci := 12) rfl rfl (tx_nt hd) (tx_t hd) (c_MT_stands M.2.1 E _ _ _ _ _ _ (tx_nt hd) (tx_t hd) (mtf_24.trans hd.2.2.1) (tx_nm hd) (tx_m hd) _ _ (by assumption)) rfl rfl ⟨Nat.le_of_ble_eq_true rfl, Nat.le_of_ble_eq_true rfl⟩ ⟨rfl, rfl⟩ ⟨Nat.le_of_ble_eq_true rfl, Nat.le_of_ble_eq_true rfl⟩ (Nat.le_of_ble_eq_true rfl) (pc' := 304) rfl ?_
    exact C304 _ _ _ _ _ _ _ _ _ _ _ (by assumption)
  have C289 : ∀ (xs : Int32) (xr : Int32) (xp : Int32) (xc : Int32) (xn : Int32) (xm : Nat → Int32) (v4 : Int32) (v5 : Int32) (v6 : Int32) (v7 : Int32) (s1 : Int32), (xs = 0 ∨ xs = 1) → jJ E jcl 8 M (jQ E jcl M (fun r σ' n' => ∃ sd' ri' pa' cl' nu' men', (sd' = 0 ∨ sd' = 1) ∧ r = none ∧ n' = n ∧ σ' = (txS σ P g sd' ri' pa' cl' nu' mv men' km kr li)) 0 0) n 0 0 289 [some (.inr (.inr (some (.inl (P.1))))), some (.inl mo), some (.inl (nI a)), some (.inl (nI b)), some (.inl v4), some (.inl v5), some (.inl v6), some (.inl v7)] [.inl s1, .inr (.inr (some (.inl (P.1))))] (txS σ P g xs xr xp xc xn mv xm km kr li) := by
    intro xs xr xp xc xn xm v4 v5 v6 v7 s1 c0
    refine jrun_ok jC X k_MT_make_289 289 _ _ _ o_MT_make_289 ?_
    simp only [k_MT_make_289, jrun, jstep, jldi, jldl, jlda, j1, j2, jl1, jl2, jli, ja1, jbr, jald, jast, jlald, jlast, jalen, jget, jput, jfit, jdup, jdupx, jdupx2, jdup2, jcat, jset1, jset2, jkill, List.getElem?_cons_zero, List.getElem?_cons_succ, List.set_cons_zero, List.set_cons_succ, List.length_cons, List.length_nil, Nat.reduceAdd, Nat.reduceLT, Int32.reduceToNatClampNeg, true_and, and_true, and_self, reduceCtorEq, not_false_eq_true, false_and, and_false, or_false, false_or, true_or, or_true, tx_t hd, tx_m hd, tx_k hd, tx_r hd, tx_l hd, tx_ut hd, tx_um hd, tx_uk hd, tx_ur hd, tx_ul hd, mtf_len hd.2.1, mtf_24, mtf_30, mtf_31, mtf_32, mtf_25 hd.2.1, mtf_26 hd.2.1, mtf_27 hd.2.1, mtf_28 hd.2.1, mtf_29 hd.2.1, mtf_33 hd.2.1, mtf_s25, mtf_s26, mtf_s27, mtf_s28, mtf_s29, mtf_s33, hd.2.2.1, hd.2.2.2.1, hd.2.2.2.2.1, hd.2.2.2.2.2, tx_nt hd, tx_nm hd, tx_nk hd, tx_nr hd, tx_nl hd, vp_nar_int32, efr, eto]
    refine ⟨fun h289 => C307 _ _ _ _ _ _ _ _ _ _ (by assumption), fun h289 => ?_⟩
    refine jk_Si X hR d_MT_make_296 q_MT_make_296 m_MT_step s_MT_step (c_MT_step M.2.1 E _ _ _ _ _) rfl rfl ⟨Nat.le_of_ble_eq_true rfl, Nat.le_of_ble_eq_true rfl⟩ ⟨rfl, rfl⟩ ⟨Nat.le_of_ble_eq_true rfl, Nat.le_of_ble_eq_true rfl⟩ (Nat.le_of_ble_eq_true rfl) (pc' := 299) rfl ?_
    exact C299 _ _ _ _ _ _ _ _ _ _ _ (by assumption) (mt_step_in _ _ _)
  have C284 : ∀ (xs : Int32) (xr : Int32) (xp : Int32) (xc : Int32) (xn : Int32) (xm : Nat → Int32) (v4 : Int32) (v5 : Int32) (v6 : Int32) (v7 : Int32) (s2 : Int32), (xs = 0 ∨ xs = 1) → (s2 < 0 ∨ vp_in s2 64) → jJ E jcl 8 M (jQ E jcl M (fun r σ' n' => ∃ sd' ri' pa' cl' nu' men', (sd' = 0 ∨ sd' = 1) ∧ r = none ∧ n' = n ∧ σ' = (txS σ P g sd' ri' pa' cl' nu' mv men' km kr li)) 0 0) n 0 0 284 [some (.inr (.inr (some (.inl (P.1))))), some (.inl mo), some (.inl (nI a)), some (.inl (nI b)), some (.inl v4), some (.inl v5), some (.inl v6), some (.inl v7)] [.inl s2, .inr (.inr (some (.inl (P.1)))), .inr (.inr (some (.inl (P.1))))] (txS σ P g xs xr xp xc xn mv xm km kr li) := by
    intro xs xr xp xc xn xm v4 v5 v6 v7 s2 c0 c1
    refine jrun_ok jC X k_MT_make_284 284 _ _ _ o_MT_make_284 ?_
    simp only [k_MT_make_284, jrun, jstep, jldi, jldl, jlda, j1, j2, jl1, jl2, jli, ja1, jbr, jald, jast, jlald, jlast, jalen, jget, jput, jfit, jdup, jdupx, jdupx2, jdup2, jcat, jset1, jset2, jkill, List.getElem?_cons_zero, List.getElem?_cons_succ, List.set_cons_zero, List.set_cons_succ, List.length_cons, List.length_nil, Nat.reduceAdd, Nat.reduceLT, Int32.reduceToNatClampNeg, true_and, and_true, and_self, reduceCtorEq, not_false_eq_true, false_and, and_false, or_false, false_or, true_or, or_true, tx_t hd, tx_m hd, tx_k hd, tx_r hd, tx_l hd, tx_ut hd, tx_um hd, tx_uk hd, tx_ur hd, tx_ul hd, mtf_len hd.2.1, mtf_24, mtf_30, mtf_31, mtf_32, mtf_25 hd.2.1, mtf_26 hd.2.1, mtf_27 hd.2.1, mtf_28 hd.2.1, mtf_29 hd.2.1, mtf_33 hd.2.1, mtf_s25, mtf_s26, mtf_s27, mtf_s28, mtf_s29, mtf_s33, hd.2.2.1, hd.2.2.2.1, hd.2.2.2.2.1, hd.2.2.2.2.2, tx_nt hd, tx_nm hd, tx_nk hd, tx_nr hd, tx_nl hd, vp_nar_int32, efr, eto]
    refine ?_
    refine jk_Vi X hR d_MT_make_286 q_MT_make_286 m_MT_stands i_MT_stands e_MT_stands (ci := 12) rfl rfl (tx_nt hd) (tx_t hd) (c_MT_stands M.2.1 E _ _ _ _ _ _ (tx_nt hd) (tx_t hd) (mtf_24.trans hd.2.2.1) (tx_nm hd) (tx_m hd) _ _ (by assumption)) rfl rfl ⟨Nat.le_of_ble_eq_true rfl, Nat.le_of_ble_eq_true rfl⟩ ⟨rfl, rfl⟩ ⟨Nat.le_of_ble_eq_true rfl, Nat.le_of_ble_eq_true rfl⟩ (Nat.le_of_ble_eq_true rfl) (pc' := 289) rfl ?_
    exact C289 _ _ _ _ _ _ _ _ _ _ _ (by assumption)
  have C263 : ∀ (xs : Int32) (xr : Int32) (xp : Int32) (xc : Int32) (xn : Int32) (xm : Nat → Int32) (v4 : Int32) (v5 : Int32) (v6 : Int32) (o7 : Option jv), (xs = 0 ∨ xs = 1) → jJ E jcl 8 M (jQ E jcl M (fun r σ' n' => ∃ sd' ri' pa' cl' nu' men', (sd' = 0 ∨ sd' = 1) ∧ r = none ∧ n' = n ∧ σ' = (txS σ P g sd' ri' pa' cl' nu' mv men' km kr li)) 0 0) n 0 0 263 [some (.inr (.inr (some (.inl (P.1))))), some (.inl mo), some (.inl (nI a)), some (.inl (nI b)), some (.inl v4), some (.inl v5), some (.inl v6), o7] [] (txS σ P g xs xr xp xc xn mv xm km kr li) := by
    intro xs xr xp xc xn xm v4 v5 v6 o7 c0
    refine jrun_ok jC X k_MT_make_263 263 _ _ _ o_MT_make_263 ?_
    simp only [k_MT_make_263, jrun, jstep, jldi, jldl, jlda, j1, j2, jl1, jl2, jli, ja1, jbr, jald, jast, jlald, jlast, jalen, jget, jput, jfit, jdup, jdupx, jdupx2, jdup2, jcat, jset1, jset2, jkill, List.getElem?_cons_zero, List.getElem?_cons_succ, List.set_cons_zero, List.set_cons_succ, List.length_cons, List.length_nil, Nat.reduceAdd, Nat.reduceLT, Int32.reduceToNatClampNeg, true_and, and_true, and_self, reduceCtorEq, not_false_eq_true, false_and, and_false, or_false, false_or, true_or, or_true, tx_t hd, tx_m hd, tx_k hd, tx_r hd, tx_l hd, tx_ut hd, tx_um hd, tx_uk hd, tx_ur hd, tx_ul hd, mtf_len hd.2.1, mtf_24, mtf_30, mtf_31, mtf_32, mtf_25 hd.2.1, mtf_26 hd.2.1, mtf_27 hd.2.1, mtf_28 hd.2.1, mtf_29 hd.2.1, mtf_33 hd.2.1, mtf_s25, mtf_s26, mtf_s27, mtf_s28, mtf_s29, mtf_s33, hd.2.2.1, hd.2.2.2.1, hd.2.2.2.2.1, hd.2.2.2.2.2, tx_nt hd, tx_nm hd, tx_nk hd, tx_nr hd, tx_nl hd, vp_nar_int32, efr, eto]
    refine ?_
    refine jk_Si X hR d_MT_make_281 q_MT_make_281 m_MT_step s_MT_step (c_MT_step M.2.1 E _ _ _ _ _) rfl rfl ⟨Nat.le_of_ble_eq_true rfl, Nat.le_of_ble_eq_true rfl⟩ ⟨rfl, rfl⟩ ⟨Nat.le_of_ble_eq_true rfl, Nat.le_of_ble_eq_true rfl⟩ (Nat.le_of_ble_eq_true rfl) (pc' := 284) rfl ?_
    exact C284 _ _ _ _ _ _ _ _ _ _ _ (by assumption) (mt_step_in _ _ _)
  have C237 : ∀ (xs : Int32) (xr : Int32) (xp : Int32) (xc : Int32) (xn : Int32) (xm : Nat → Int32) (v4 : Int32) (v5 : Int32) (v6 : Int32) (o7 : Option jv), (xs = 0 ∨ xs = 1) → jJ E jcl 8 M (jQ E jcl M (fun r σ' n' => ∃ sd' ri' pa' cl' nu' men', (sd' = 0 ∨ sd' = 1) ∧ r = none ∧ n' = n ∧ σ' = (txS σ P g sd' ri' pa' cl' nu' mv men' km kr li)) 0 0) n 0 0 237 [some (.inr (.inr (some (.inl (P.1))))), some (.inl mo), some (.inl (nI a)), some (.inl (nI b)), some (.inl v4), some (.inl v5), some (.inl v6), o7] [] (txS σ P g xs xr xp xc xn mv xm km kr li) := by
    intro xs xr xp xc xn xm v4 v5 v6 o7 c0
    refine jrun_ok jC X k_MT_make_237 237 _ _ _ o_MT_make_237 ?_
    simp only [k_MT_make_237, jrun, jstep, jldi, jldl, jlda, j1, j2, jl1, jl2, jli, ja1, jbr, jald, jast, jlald, jlast, jalen, jget, jput, jfit, jdup, jdupx, jdupx2, jdup2, jcat, jset1, jset2, jkill, List.getElem?_cons_zero, List.getElem?_cons_succ, List.set_cons_zero, List.set_cons_succ, List.length_cons, List.length_nil, Nat.reduceAdd, Nat.reduceLT, Int32.reduceToNatClampNeg, true_and, and_true, and_self, reduceCtorEq, not_false_eq_true, false_and, and_false, or_false, false_or, true_or, or_true, tx_t hd, tx_m hd, tx_k hd, tx_r hd, tx_l hd, tx_ut hd, tx_um hd, tx_uk hd, tx_ur hd, tx_ul hd, mtf_len hd.2.1, mtf_24, mtf_30, mtf_31, mtf_32, mtf_25 hd.2.1, mtf_26 hd.2.1, mtf_27 hd.2.1, mtf_28 hd.2.1, mtf_29 hd.2.1, mtf_33 hd.2.1, mtf_s25, mtf_s26, mtf_s27, mtf_s28, mtf_s29, mtf_s33, hd.2.2.1, hd.2.2.2.1, hd.2.2.2.2.1, hd.2.2.2.2.2, tx_nt hd, tx_nm hd, tx_nk hd, tx_nr hd, tx_nl hd, vp_nar_int32, efr, eto]
    exact ⟨fun h244 => C319 _ _ _ _ _ _ _ _ _ _ (by assumption), fun h244 => ⟨fun h252 => C263 _ _ _ _ _ _ _ _ _ _ (by assumption), fun h252 => ⟨fun h260 => C319 _ _ _ _ _ _ _ _ _ _ (by assumption), fun h260 => C263 _ _ _ _ _ _ _ _ _ _ (by assumption)⟩⟩⟩
  have C232 : ∀ (xs : Int32) (xr : Int32) (xp : Int32) (xc : Int32) (xn : Int32) (xm : Nat → Int32) (v4 : Int32) (v5 : Int32) (v6 : Int32) (o7 : Option jv), (xs = 0 ∨ xs = 1) → jJ E jcl 8 M (jQ E jcl M (fun r σ' n' => ∃ sd' ri' pa' cl' nu' men', (sd' = 0 ∨ sd' = 1) ∧ r = none ∧ n' = n ∧ σ' = (txS σ P g sd' ri' pa' cl' nu' mv men' km kr li)) 0 0) n 0 0 232 [some (.inr (.inr (some (.inl (P.1))))), some (.inl mo), some (.inl (nI a)), some (.inl (nI b)), some (.inl v4), some (.inl v5), some (.inl v6), o7] [] (txS σ P g xs xr xp xc xn mv xm km kr li) := by
    intro xs xr xp xc xn xm v4 v5 v6 o7 c0
    refine jrun_ok jC X k_MT_make_232 232 _ _ _ o_MT_make_232 ?_
    simp only [k_MT_make_232, jrun, jstep, jldi, jldl, jlda, j1, j2, jl1, jl2, jli, ja1, jbr, jald, jast, jlald, jlast, jalen, jget, jput, jfit, jdup, jdupx, jdupx2, jdup2, jcat, jset1, jset2, jkill, List.getElem?_cons_zero, List.getElem?_cons_succ, List.set_cons_zero, List.set_cons_succ, List.length_cons, List.length_nil, Nat.reduceAdd, Nat.reduceLT, Int32.reduceToNatClampNeg, true_and, and_true, and_self, reduceCtorEq, not_false_eq_true, false_and, and_false, or_false, false_or, true_or, or_true, tx_t hd, tx_m hd, tx_k hd, tx_r hd, tx_l hd, tx_ut hd, tx_um hd, tx_uk hd, tx_ur hd, tx_ul hd, mtf_len hd.2.1, mtf_24, mtf_30, mtf_31, mtf_32, mtf_25 hd.2.1, mtf_26 hd.2.1, mtf_27 hd.2.1, mtf_28 hd.2.1, mtf_29 hd.2.1, mtf_33 hd.2.1, mtf_s25, mtf_s26, mtf_s27, mtf_s28, mtf_s29, mtf_s33, hd.2.2.1, hd.2.2.2.1, hd.2.2.2.2.1, hd.2.2.2.2.2, tx_nt hd, tx_nm hd, tx_nk hd, tx_nr hd, tx_nl hd, vp_nar_int32, efr, eto]
    refine ?_
    refine jk_Vg X hR d_MT_make_234 q_MT_make_234 m_MT_lose i_MT_lose e_MT_lose (ci := 12) rfl rfl (tx_nt hd) (tx_t hd) (c_MT_lose M.2.1 E _ _ _ _ hd _ _ _ _ _ _ _ _ _ _ _) rfl rfl ⟨Nat.le_of_ble_eq_true rfl, Nat.le_of_ble_eq_true rfl⟩ (c' := 0) rfl (s' := 0) rfl ⟨Nat.le_of_ble_eq_true rfl, Nat.le_of_ble_eq_true rfl⟩ (Nat.le_of_ble_eq_true rfl) (pc' := 237) rfl ?_
    rintro _ _ _ ⟨ri2, rfl, rfl, rfl⟩
    simp only [Option.toList_none, List.nil_append]
    exact C237 _ _ _ _ _ _ _ _ _ _ (by assumption)
  have C226 : ∀ (xs : Int32) (xr : Int32) (xp : Int32) (xc : Int32) (xn : Int32) (xm : Nat → Int32) (v4 : Int32) (v5 : Int32) (v6 : Int32) (o7 : Option jv) (s1 : Int32) (s2 : Int32), (xs = 0 ∨ xs = 1) → (vp_in s1 64) → jJ E jcl 8 M (jQ E jcl M (fun r σ' n' => ∃ sd' ri' pa' cl' nu' men', (sd' = 0 ∨ sd' = 1) ∧ r = none ∧ n' = n ∧ σ' = (txS σ P g sd' ri' pa' cl' nu' mv men' km kr li)) 0 0) n 0 0 226 [some (.inr (.inr (some (.inl (P.1))))), some (.inl mo), some (.inl (nI a)), some (.inl (nI b)), some (.inl v4), some (.inl v5), some (.inl v6), o7] [.inl s2, .inl s1, .inr (.inr (some (.inl (P.2.1))))] (txS σ P g xs xr xp xc xn mv xm km kr li) := by
    intro xs xr xp xc xn xm v4 v5 v6 o7 s1 s2 c0 c1
    refine jrun_ok jC X k_MT_make_226 226 _ _ _ o_MT_make_226 ?_
    simp only [k_MT_make_226, jrun, jstep, jldi, jldl, jlda, j1, j2, jl1, jl2, jli, ja1, jbr, jald, jast, jlald, jlast, jalen, jget, jput, jfit, jdup, jdupx, jdupx2, jdup2, jcat, jset1, jset2, jkill, List.getElem?_cons_zero, List.getElem?_cons_succ, List.set_cons_zero, List.set_cons_succ, List.length_cons, List.length_nil, Nat.reduceAdd, Nat.reduceLT, Int32.reduceToNatClampNeg, true_and, and_true, and_self, reduceCtorEq, not_false_eq_true, false_and, and_false, or_false, false_or, true_or, or_true, tx_t hd, tx_m hd, tx_k hd, tx_r hd, tx_l hd, tx_ut hd, tx_um hd, tx_uk hd, tx_ur hd, tx_ul hd, mtf_len hd.2.1, mtf_24, mtf_30, mtf_31, mtf_32, mtf_25 hd.2.1, mtf_26 hd.2.1, mtf_27 hd.2.1, mtf_28 hd.2.1, mtf_29 hd.2.1, mtf_33 hd.2.1, mtf_s25, mtf_s26, mtf_s27, mtf_s28, mtf_s29, mtf_s33, hd.2.2.1, hd.2.2.2.1, hd.2.2.2.2.1, hd.2.2.2.2.2, tx_nt hd, tx_nm hd, tx_nk hd, tx_nr hd, tx_nl hd, vp_nar_int32, efr, eto]
    refine ⟨(by assumption), ?_⟩
    refine jk_Vg X hR d_MT_make_229 q_MT_make_229 m_MT_lose i_MT_lose e_MT_lose (ci := 12) rfl rfl (tx_nt hd) (tx_t hd) (c_MT_lose M.2.1 E _ _ _ _ hd _ _ _ _ _ _ _ _ _ _ _) rfl rfl ⟨Nat.le_of_ble_eq_true rfl, Nat.le_of_ble_eq_true rfl⟩ (c' := 0) rfl (s' := 0) rfl ⟨Nat.le_of_ble_eq_true rfl, Nat.le_of_ble_eq_true rfl⟩ (Nat.le_of_ble_eq_true rfl) (pc' := 232) rfl ?_
    rintro _ _ _ ⟨ri2, rfl, rfl, rfl⟩
    simp only [Option.toList_none, List.nil_append]
    exact C232 _ _ _ _ _ _ _ _ _ _ (by assumption)
  have C224 : ∀ (xs : Int32) (xr : Int32) (xp : Int32) (xc : Int32) (xn : Int32) (xm : Nat → Int32) (v4 : Int32) (v5 : Int32) (v6 : Int32) (o7 : Option jv) (s1 : Int32), (xs = 0 ∨ xs = 1) → (vp_in s1 64) → jJ E jcl 8 M (jQ E jcl M (fun r σ' n' => ∃ sd' ri' pa' cl' nu' men', (sd' = 0 ∨ sd' = 1) ∧ r = none ∧ n' = n ∧ σ' = (txS σ P g sd' ri' pa' cl' nu' mv men' km kr li)) 0 0) n 0 0 224 [some (.inr (.inr (some (.inl (P.1))))), some (.inl mo), some (.inl (nI a)), some (.inl (nI b)), some (.inl v4), some (.inl v5), some (.inl v6), o7] [.inl s1, .inr (.inr (some (.inl (P.2.1))))] (txS σ P g xs xr xp xc xn mv xm km kr li) := by
    intro xs xr xp xc xn xm v4 v5 v6 o7 s1 c0 c1
    refine jrun_ok jC X k_MT_make_224 224 _ _ _ o_MT_make_224 ?_
    simp only [k_MT_make_224, jrun, jstep, jldi, jldl, jlda, j1, j2, jl1, jl2, jli, ja1, jbr, jald, jast, jlald, jlast, jalen, jget, jput, jfit, jdup, jdupx, jdupx2, jdup2, jcat, jset1, jset2, jkill, List.getElem?_cons_zero, List.getElem?_cons_succ, List.set_cons_zero, List.set_cons_succ, List.length_cons, List.length_nil, Nat.reduceAdd, Nat.reduceLT, Int32.reduceToNatClampNeg, true_and, and_true, and_self, reduceCtorEq, not_false_eq_true, false_and, and_false, or_false, false_or, true_or, or_true, tx_t hd, tx_m hd, tx_k hd, tx_r hd, tx_l hd, tx_ut hd, tx_um hd, tx_uk hd, tx_ur hd, tx_ul hd, mtf_len hd.2.1, mtf_24, mtf_30, mtf_31, mtf_32, mtf_25 hd.2.1, mtf_26 hd.2.1, mtf_27 hd.2.1, mtf_28 hd.2.1, mtf_29 hd.2.1, mtf_33 hd.2.1, mtf_s25, mtf_s26, mtf_s27, mtf_s28, mtf_s29, mtf_s33, hd.2.2.1, hd.2.2.2.1, hd.2.2.2.2.1, hd.2.2.2.2.2, tx_nt hd, tx_nm hd, tx_nk hd, tx_nr hd, tx_nl hd, vp_nar_int32, efr, eto]
    exact C226 _ _ _ _ _ _ _ _ _ _ _ _ (by assumption) (by first | assumption | exact vp_in_nI hb (by omega))
  have C194 : ∀ (xs : Int32) (xr : Int32) (xp : Int32) (xc : Int32) (xn : Int32) (xm : Nat → Int32) (v4 : Int32) (v5 : Int32) (v6 : Int32) (o7 : Option jv), (xs = 0 ∨ xs = 1) → jJ E jcl 8 M (jQ E jcl M (fun r σ' n' => ∃ sd' ri' pa' cl' nu' men', (sd' = 0 ∨ sd' = 1) ∧ r = none ∧ n' = n ∧ σ' = (txS σ P g sd' ri' pa' cl' nu' mv men' km kr li)) 0 0) n 0 0 194 [some (.inr (.inr (some (.inl (P.1))))), some (.inl mo), some (.inl (nI a)), some (.inl (nI b)), some (.inl v4), some (.inl v5), some (.inl v6), o7] [] (txS σ P g xs xr xp xc xn mv xm km kr li) := by
    intro xs xr xp xc xn xm v4 v5 v6 o7 c0
    refine jrun_ok jC X k_MT_make_194 194 _ _ _ o_MT_make_194 ?_
    simp only [k_MT_make_194, jrun, jstep, jldi, jldl, jlda, j1, j2, jl1, jl2, jli, ja1, jbr, jald, jast, jlald, jlast, jalen, jget, jput, jfit, jdup, jdupx, jdupx2, jdup2, jcat, jset1, jset2, jkill, List.getElem?_cons_zero, List.getElem?_cons_succ, List.set_cons_zero, List.set_cons_succ, List.length_cons, List.length_nil, Nat.reduceAdd, Nat.reduceLT, Int32.reduceToNatClampNeg, true_and, and_true, and_self, reduceCtorEq, not_false_eq_true, false_and, and_false, or_false, false_or, true_or, or_true, tx_t hd, tx_m hd, tx_k hd, tx_r hd, tx_l hd, tx_ut hd, tx_um hd, tx_uk hd, tx_ur hd, tx_ul hd, mtf_len hd.2.1, mtf_24, mtf_30, mtf_31, mtf_32, mtf_25 hd.2.1, mtf_26 hd.2.1, mtf_27 hd.2.1, mtf_28 hd.2.1, mtf_29 hd.2.1, mtf_33 hd.2.1, mtf_s25, mtf_s26, mtf_s27, mtf_s28, mtf_s29, mtf_s33, hd.2.2.1, hd.2.2.2.1, hd.2.2.2.2.1, hd.2.2.2.2.2, tx_nt hd, tx_nm hd, tx_nk hd, tx_nr hd, tx_nl hd, vp_nar_int32, efr, eto]
    exact ⟨(vp_in_nI ha (by omega)), ⟨fun h208 => C224 _ _ _ _ _ _ _ _ _ _ _ (by assumption) (by first | assumption | exact vp_in_nI hb (by omega)), fun h208 => C226 _ _ _ _ _ _ _ _ _ _ _ _ (by assumption) (by first | assumption | exact vp_in_nI hb (by omega))⟩⟩
  have C167 : ∀ (xs : Int32) (xr : Int32) (xp : Int32) (xc : Int32) (xn : Int32) (xm : Nat → Int32) (v4 : Int32) (v5 : Int32) (v6 : Int32) (o7 : Option jv) (s0 : Int32), (xs = 0 ∨ xs = 1) → (vp_in s0 64) → jJ E jcl 8 M (jQ E jcl M (fun r σ' n' => ∃ sd' ri' pa' cl' nu' men', (sd' = 0 ∨ sd' = 1) ∧ r = none ∧ n' = n ∧ σ' = (txS σ P g sd' ri' pa' cl' nu' mv men' km kr li)) 0 0) n 0 0 167 [some (.inr (.inr (some (.inl (P.1))))), some (.inl mo), some (.inl (nI a)), some (.inl (nI b)), some (.inl v4), some (.inl v5), some (.inl v6), o7] [.inl s0] (txS σ P g xs xr xp xc xn mv xm km kr li) := by
    intro xs xr xp xc xn xm v4 v5 v6 o7 s0 c0 c1
    refine jrun_ok jC X k_MT_make_167 167 _ _ _ o_MT_make_167 ?_
    simp only [k_MT_make_167, jrun, jstep, jldi, jldl, jlda, j1, j2, jl1, jl2, jli, ja1, jbr, jald, jast, jlald, jlast, jalen, jget, jput, jfit, jdup, jdupx, jdupx2, jdup2, jcat, jset1, jset2, jkill, List.getElem?_cons_zero, List.getElem?_cons_succ, List.set_cons_zero, List.set_cons_succ, List.length_cons, List.length_nil, Nat.reduceAdd, Nat.reduceLT, Int32.reduceToNatClampNeg, true_and, and_true, and_self, reduceCtorEq, not_false_eq_true, false_and, and_false, or_false, false_or, true_or, or_true, tx_t hd, tx_m hd, tx_k hd, tx_r hd, tx_l hd, tx_ut hd, tx_um hd, tx_uk hd, tx_ur hd, tx_ul hd, mtf_len hd.2.1, mtf_24, mtf_30, mtf_31, mtf_32, mtf_25 hd.2.1, mtf_26 hd.2.1, mtf_27 hd.2.1, mtf_28 hd.2.1, mtf_29 hd.2.1, mtf_33 hd.2.1, mtf_s25, mtf_s26, mtf_s27, mtf_s28, mtf_s29, mtf_s33, hd.2.2.1, hd.2.2.2.1, hd.2.2.2.2.1, hd.2.2.2.2.2, tx_nt hd, tx_nm hd, tx_nk hd, tx_nr hd, tx_nl hd, vp_nar_int32, efr, eto]
    exact ⟨by decide, ⟨(by assumption), ⟨(mk_3 a ha b hb), ⟨(by assumption), C194 _ _ _ _ _ _ _ _ _ _ (by assumption)⟩⟩⟩⟩
  have C164 : ∀ (xs : Int32) (xr : Int32) (xp : Int32) (xc : Int32) (xn : Int32) (xm : Nat → Int32) (v4 : Int32) (v5 : Int32) (v6 : Int32) (o7 : Option jv), (xs = 0 ∨ xs = 1) → (nI a - nI a / 8 * 8 = 4) → jJ E jcl 8 M (jQ E jcl M (fun r σ' n' => ∃ sd' ri' pa' cl' nu' men', (sd' = 0 ∨ sd' = 1) ∧ r = none ∧ n' = n ∧ σ' = (txS σ P g sd' ri' pa' cl' nu' mv men' km kr li)) 0 0) n 0 0 164 [some (.inr (.inr (some (.inl (P.1))))), some (.inl mo), some (.inl (nI a)), some (.inl (nI b)), some (.inl v4), some (.inl v5), some (.inl v6), o7] [] (txS σ P g xs xr xp xc xn mv xm km kr li) := by
    intro xs xr xp xc xn xm v4 v5 v6 o7 c0 c1
    refine jrun_ok jC X k_MT_make_164 164 _ _ _ o_MT_make_164 ?_
    simp only [k_MT_make_164, jrun, jstep, jldi, jldl, jlda, j1, j2, jl1, jl2, jli, ja1, jbr, jald, jast, jlald, jlast, jalen, jget, jput, jfit, jdup, jdupx, jdupx2, jdup2, jcat, jset1, jset2, jkill, List.getElem?_cons_zero, List.getElem?_cons_succ, List.set_cons_zero, List.set_cons_succ, List.length_cons, List.length_nil, Nat.reduceAdd, Nat.reduceLT, Int32.reduceToNatClampNeg, true_and, and_true, and_self, reduceCtorEq, not_false_eq_true, false_and, and_false, or_false, false_or, true_or, or_true, tx_t hd, tx_m hd, tx_k hd, tx_r hd, tx_l hd, tx_ut hd, tx_um hd, tx_uk hd, tx_ur hd, tx_ul hd, mtf_len hd.2.1, mtf_24, mtf_30, mtf_31, mtf_32, mtf_25 hd.2.1, mtf_26 hd.2.1, mtf_27 hd.2.1, mtf_28 hd.2.1, mtf_29 hd.2.1, mtf_33 hd.2.1, mtf_s25, mtf_s26, mtf_s27, mtf_s28, mtf_s29, mtf_s33, hd.2.2.1, hd.2.2.2.1, hd.2.2.2.2.1, hd.2.2.2.2.2, tx_nt hd, tx_nm hd, tx_nk hd, tx_nr hd, tx_nl hd, vp_nar_int32, efr, eto]
    exact C167 _ _ _ _ _ _ _ _ _ _ _ (by assumption) (by first | exact (mk_2 a ha (by assumption)).1 | exact (mk_2 a ha (by assumption)).2)
  have C149 : ∀ (xs : Int32) (xr : Int32) (xp : Int32) (xc : Int32) (xn : Int32) (xm : Nat → Int32) (v4 : Int32) (v5 : Int32) (v6 : Int32) (o7 : Option jv), (xs = 0 ∨ xs = 1) → (nI a - nI a / 8 * 8 = 4) → jJ E jcl 8 M (jQ E jcl M (fun r σ' n' => ∃ sd' ri' pa' cl' nu' men', (sd' = 0 ∨ sd' = 1) ∧ r = none ∧ n' = n ∧ σ' = (txS σ P g sd' ri' pa' cl' nu' mv men' km kr li)) 0 0) n 0 0 149 [some (.inr (.inr (some (.inl (P.1))))), some (.inl mo), some (.inl (nI a)), some (.inl (nI b)), some (.inl v4), some (.inl v5), some (.inl v6), o7] [] (txS σ P g xs xr xp xc xn mv xm km kr li) := by
    intro xs xr xp xc xn xm v4 v5 v6 o7 c0 c1
    refine jrun_ok jC X k_MT_make_149 149 _ _ _ o_MT_make_149 ?_
    simp only [k_MT_make_149, jrun, jstep, jldi, jldl, jlda, j1, j2, jl1, jl2, jli, ja1, jbr, jald, jast, jlald, jlast, jalen, jget, jput, jfit, jdup, jdupx, jdupx2, jdup2, jcat, jset1, jset2, jkill, List.getElem?_cons_zero, List.getElem?_cons_succ, List.set_cons_zero, List.set_cons_succ, List.length_cons, List.length_nil, Nat.reduceAdd, Nat.reduceLT, Int32.reduceToNatClampNeg, true_and, and_true, and_self, reduceCtorEq, not_false_eq_true, false_and, and_false, or_false, false_or, true_or, or_true, tx_t hd, tx_m hd, tx_k hd, tx_r hd, tx_l hd, tx_ut hd, tx_um hd, tx_uk hd, tx_ur hd, tx_ul hd, mtf_len hd.2.1, mtf_24, mtf_30, mtf_31, mtf_32, mtf_25 hd.2.1, mtf_26 hd.2.1, mtf_27 hd.2.1, mtf_28 hd.2.1, mtf_29 hd.2.1, mtf_33 hd.2.1, mtf_s25, mtf_s26, mtf_s27, mtf_s28, mtf_s29, mtf_s33, hd.2.2.1, hd.2.2.2.1, hd.2.2.2.2.1, hd.2.2.2.2.2, tx_nt hd, tx_nm hd, tx_nk hd, tx_nr hd, tx_nl hd, vp_nar_int32, efr, eto]
    exact ⟨by decide, ⟨fun h155 => C164 _ _ _ _ _ _ _ _ _ _ (by assumption) (by assumption), fun h155 => C167 _ _ _ _ _ _ _ _ _ _ _ (by assumption) (by first | exact (mk_2 a ha (by assumption)).1 | exact (mk_2 a ha (by assumption)).2)⟩⟩
  have C119 : ∀ (xs : Int32) (xr : Int32) (xp : Int32) (xc : Int32) (xn : Int32) (xm : Nat → Int32) (v4 : Int32) (v5 : Int32) (v6 : Int32) (o7 : Option jv) (s0 : Int32), (xs = 0 ∨ xs = 1) → jJ E jcl 8 M (jQ E jcl M (fun r σ' n' => ∃ sd' ri' pa' cl' nu' men', (sd' = 0 ∨ sd' = 1) ∧ r = none ∧ n' = n ∧ σ' = (txS σ P g sd' ri' pa' cl' nu' mv men' km kr li)) 0 0) n 0 0 119 [some (.inr (.inr (some (.inl (P.1))))), some (.inl mo), some (.inl (nI a)), some (.inl (nI b)), some (.inl v4), some (.inl v5), some (.inl v6), o7] [.inl s0] (txS σ P g xs xr xp xc xn mv xm km kr li) := by
    intro xs xr xp xc xn xm v4 v5 v6 o7 s0 c0
    refine jrun_ok jC X k_MT_make_119 119 _ _ _ o_MT_make_119 ?_
    simp only [k_MT_make_119, jrun, jstep, jldi, jldl, jlda, j1, j2, jl1, jl2, jli, ja1, jbr, jald, jast, jlald, jlast, jalen, jget, jput, jfit, jdup, jdupx, jdupx2, jdup2, jcat, jset1, jset2, jkill, List.getElem?_cons_zero, List.getElem?_cons_succ, List.set_cons_zero, List.set_cons_succ, List.length_cons, List.length_nil, Nat.reduceAdd, Nat.reduceLT, Int32.reduceToNatClampNeg, true_and, and_true, and_self, reduceCtorEq, not_false_eq_true, false_and, and_false, or_false, false_or, true_or, or_true, tx_t hd, tx_m hd, tx_k hd, tx_r hd, tx_l hd, tx_ut hd, tx_um hd, tx_uk hd, tx_ur hd, tx_ul hd, mtf_len hd.2.1, mtf_24, mtf_30, mtf_31, mtf_32, mtf_25 hd.2.1, mtf_26 hd.2.1, mtf_27 hd.2.1, mtf_28 hd.2.1, mtf_29 hd.2.1, mtf_33 hd.2.1, mtf_s25, mtf_s26, mtf_s27, mtf_s28, mtf_s29, mtf_s33, hd.2.2.1, hd.2.2.2.1, hd.2.2.2.2.1, hd.2.2.2.2.2, tx_nt hd, tx_nm hd, tx_nk hd, tx_nr hd, tx_nl hd, vp_nar_int32, efr, eto]
    exact ⟨fun h121 => C194 _ _ _ _ _ _ _ _ _ _ (by assumption), fun h121 => ⟨by decide, ⟨fun h129 => C194 _ _ _ _ _ _ _ _ _ _ (by assumption), fun h129 => ⟨by decide, ⟨fun h138 => C149 _ _ _ _ _ _ _ _ _ _ (by assumption) (by assumption), fun h138 => ⟨by decide, ⟨fun h146 => C194 _ _ _ _ _ _ _ _ _ _ (by assumption), fun h146 => C149 _ _ _ _ _ _ _ _ _ _ (by assumption) (by assumption)⟩⟩⟩⟩⟩⟩⟩
  have C114 : ∀ (xs : Int32) (xr : Int32) (xp : Int32) (xc : Int32) (xn : Int32) (xm : Nat → Int32) (v4 : Int32) (v5 : Int32) (v6 : Int32) (o7 : Option jv), (xs = 0 ∨ xs = 1) → jJ E jcl 8 M (jQ E jcl M (fun r σ' n' => ∃ sd' ri' pa' cl' nu' men', (sd' = 0 ∨ sd' = 1) ∧ r = none ∧ n' = n ∧ σ' = (txS σ P g sd' ri' pa' cl' nu' mv men' km kr li)) 0 0) n 0 0 114 [some (.inr (.inr (some (.inl (P.1))))), some (.inl mo), some (.inl (nI a)), some (.inl (nI b)), some (.inl v4), some (.inl v5), some (.inl v6), o7] [] (txS σ P g xs xr xp xc xn mv xm km kr li) := by
    intro xs xr xp xc xn xm v4 v5 v6 o7 c0
    refine jrun_ok jC X k_MT_make_114 114 _ _ _ o_MT_make_114 ?_
    simp only [k_MT_make_114, jrun, jstep, jldi, jldl, jlda, j1, j2, jl1, jl2, jli, ja1, jbr, jald, jast, jlald, jlast, jalen, jget, jput, jfit, jdup, jdupx, jdupx2, jdup2, jcat, jset1, jset2, jkill, List.getElem?_cons_zero, List.getElem?_cons_succ, List.set_cons_zero, List.set_cons_succ, List.length_cons, List.length_nil, Nat.reduceAdd, Nat.reduceLT, Int32.reduceToNatClampNeg, true_and, and_true, and_self, reduceCtorEq, not_false_eq_true, false_and, and_false, or_false, false_or, true_or, or_true, tx_t hd, tx_m hd, tx_k hd, tx_r hd, tx_l hd, tx_ut hd, tx_um hd, tx_uk hd, tx_ur hd, tx_ul hd, mtf_len hd.2.1, mtf_24, mtf_30, mtf_31, mtf_32, mtf_25 hd.2.1, mtf_26 hd.2.1, mtf_27 hd.2.1, mtf_28 hd.2.1, mtf_29 hd.2.1, mtf_33 hd.2.1, mtf_s25, mtf_s26, mtf_s27, mtf_s28, mtf_s29, mtf_s33, hd.2.2.1, hd.2.2.2.1, hd.2.2.2.2.1, hd.2.2.2.2.2, tx_nt hd, tx_nm hd, tx_nk hd, tx_nr hd, tx_nl hd, vp_nar_int32, efr, eto]
    refine ?_
    refine jk_Si X hR d_MT_make_116 q_MT_make_116 m_MT_kind s_MT_kind (c_MT_kind M.2.1 E _ _ _) rfl rfl ⟨Nat.le_of_ble_eq_true rfl, Nat.le_of_ble_eq_true rfl⟩ ⟨rfl, rfl⟩ ⟨Nat.le_of_ble_eq_true rfl, Nat.le_of_ble_eq_true rfl⟩ (Nat.le_of_ble_eq_true rfl) (pc' := 119) rfl ?_
    exact C119 _ _ _ _ _ _ _ _ _ _ _ (by assumption)
  have C68 : ∀ (xs : Int32) (xr : Int32) (xp : Int32) (xc : Int32) (xn : Int32) (xm : Nat → Int32) (v4 : Int32) (v5 : Int32) (v6 : Int32) (o7 : Option jv) (s1 : Int32), (xs = 0 ∨ xs = 1) → jJ E jcl 8 M (jQ E jcl M (fun r σ' n' => ∃ sd' ri' pa' cl' nu' men', (sd' = 0 ∨ sd' = 1) ∧ r = none ∧ n' = n ∧ σ' = (txS σ P g sd' ri' pa' cl' nu' mv men' km kr li)) 0 0) n 0 0 68 [some (.inr (.inr (some (.inl (P.1))))), some (.inl mo), some (.inl (nI a)), some (.inl (nI b)), some (.inl v4), some (.inl v5), some (.inl v6), o7] [.inl s1, .inr (.inr (some (.inl (P.1))))] (txS σ P g xs xr xp xc xn mv xm km kr li) := by
    intro xs xr xp xc xn xm v4 v5 v6 o7 s1 c0
    refine jrun_ok jC X k_MT_make_68 68 _ _ _ o_MT_make_68 ?_
    simp only [k_MT_make_68, jrun, jstep, jldi, jldl, jlda, j1, j2, jl1, jl2, jli, ja1, jbr, jald, jast, jlald, jlast, jalen, jget, jput, jfit, jdup, jdupx, jdupx2, jdup2, jcat, jset1, jset2, jkill, List.getElem?_cons_zero, List.getElem?_cons_succ, List.set_cons_zero, List.set_cons_succ, List.length_cons, List.length_nil, Nat.reduceAdd, Nat.reduceLT, Int32.reduceToNatClampNeg, true_and, and_true, and_self, reduceCtorEq, not_false_eq_true, false_and, and_false, or_false, false_or, true_or, or_true, tx_t hd, tx_m hd, tx_k hd, tx_r hd, tx_l hd, tx_ut hd, tx_um hd, tx_uk hd, tx_ur hd, tx_ul hd, mtf_len hd.2.1, mtf_24, mtf_30, mtf_31, mtf_32, mtf_25 hd.2.1, mtf_26 hd.2.1, mtf_27 hd.2.1, mtf_28 hd.2.1, mtf_29 hd.2.1, mtf_33 hd.2.1, mtf_s25, mtf_s26, mtf_s27, mtf_s28, mtf_s29, mtf_s33, hd.2.2.1, hd.2.2.2.1, hd.2.2.2.2.1, hd.2.2.2.2.2, tx_nt hd, tx_nm hd, tx_nk hd, tx_nr hd, tx_nl hd, vp_nar_int32, efr, eto]
    exact ⟨fun h73 => C114 _ _ _ _ _ _ _ _ _ _ (by assumption), fun h73 => ⟨(vp_in_nI hb (by omega)), ⟨fun h82 => C114 _ _ _ _ _ _ _ _ _ _ (by assumption), fun h82 => ⟨by decide, ⟨by decide, ⟨fun h93 => C114 _ _ _ _ _ _ _ _ _ _ (by assumption), fun h93 => ⟨by decide, ⟨by decide, ⟨(mk_1 a ha b hb), C114 _ _ _ _ _ _ _ _ _ _ (by assumption)⟩⟩⟩⟩⟩⟩⟩⟩⟩
  have C62 : ∀ (xs : Int32) (xr : Int32) (xp : Int32) (xc : Int32) (xn : Int32) (xm : Nat → Int32) (v4 : Int32) (v5 : Int32) (v6 : Int32) (o7 : Option jv), (xs = 0 ∨ xs = 1) → jJ E jcl 8 M (jQ E jcl M (fun r σ' n' => ∃ sd' ri' pa' cl' nu' men', (sd' = 0 ∨ sd' = 1) ∧ r = none ∧ n' = n ∧ σ' = (txS σ P g sd' ri' pa' cl' nu' mv men' km kr li)) 0 0) n 0 0 62 [some (.inr (.inr (some (.inl (P.1))))), some (.inl mo), some (.inl (nI a)), some (.inl (nI b)), some (.inl v4), some (.inl v5), some (.inl v6), o7] [.inr (.inr (some (.inl (P.1))))] (txS σ P g xs xr xp xc xn mv xm km kr li) := by
    intro xs xr xp xc xn xm v4 v5 v6 o7 c0
    refine jrun_ok jC X k_MT_make_62 62 _ _ _ o_MT_make_62 ?_
    simp only [k_MT_make_62, jrun, jstep, jldi, jldl, jlda, j1, j2, jl1, jl2, jli, ja1, jbr, jald, jast, jlald, jlast, jalen, jget, jput, jfit, jdup, jdupx, jdupx2, jdup2, jcat, jset1, jset2, jkill, List.getElem?_cons_zero, List.getElem?_cons_succ, List.set_cons_zero, List.set_cons_succ, List.length_cons, List.length_nil, Nat.reduceAdd, Nat.reduceLT, Int32.reduceToNatClampNeg, true_and, and_true, and_self, reduceCtorEq, not_false_eq_true, false_and, and_false, or_false, false_or, true_or, or_true, tx_t hd, tx_m hd, tx_k hd, tx_r hd, tx_l hd, tx_ut hd, tx_um hd, tx_uk hd, tx_ur hd, tx_ul hd, mtf_len hd.2.1, mtf_24, mtf_30, mtf_31, mtf_32, mtf_25 hd.2.1, mtf_26 hd.2.1, mtf_27 hd.2.1, mtf_28 hd.2.1, mtf_29 hd.2.1, mtf_33 hd.2.1, mtf_s25, mtf_s26, mtf_s27, mtf_s28, mtf_s29, mtf_s33, hd.2.2.1, hd.2.2.2.1, hd.2.2.2.2.1, hd.2.2.2.2.2, tx_nt hd, tx_nm hd, tx_nk hd, tx_nr hd, tx_nl hd, vp_nar_int32, efr, eto]
    exact C68 _ _ _ _ _ _ _ _ _ _ _ (by assumption)
  have C58 : ∀ (xs : Int32) (xr : Int32) (xp : Int32) (xc : Int32) (xn : Int32) (xm : Nat → Int32) (v4 : Int32) (v5 : Int32) (v6 : Int32) (o7 : Option jv), (xs = 0 ∨ xs = 1) → jJ E jcl 8 M (jQ E jcl M (fun r σ' n' => ∃ sd' ri' pa' cl' nu' men', (sd' = 0 ∨ sd' = 1) ∧ r = none ∧ n' = n ∧ σ' = (txS σ P g sd' ri' pa' cl' nu' mv men' km kr li)) 0 0) n 0 0 58 [some (.inr (.inr (some (.inl (P.1))))), some (.inl mo), some (.inl (nI a)), some (.inl (nI b)), some (.inl v4), some (.inl v5), some (.inl v6), o7] [.inr (.inr (some (.inl (P.1))))] (txS σ P g xs xr xp xc xn mv xm km kr li) := by
    intro xs xr xp xc xn xm v4 v5 v6 o7 c0
    refine jrun_ok jC X k_MT_make_58 58 _ _ _ o_MT_make_58 ?_
    simp only [k_MT_make_58, jrun, jstep, jldi, jldl, jlda, j1, j2, jl1, jl2, jli, ja1, jbr, jald, jast, jlald, jlast, jalen, jget, jput, jfit, jdup, jdupx, jdupx2, jdup2, jcat, jset1, jset2, jkill, List.getElem?_cons_zero, List.getElem?_cons_succ, List.set_cons_zero, List.set_cons_succ, List.length_cons, List.length_nil, Nat.reduceAdd, Nat.reduceLT, Int32.reduceToNatClampNeg, true_and, and_true, and_self, reduceCtorEq, not_false_eq_true, false_and, and_false, or_false, false_or, true_or, or_true, tx_t hd, tx_m hd, tx_k hd, tx_r hd, tx_l hd, tx_ut hd, tx_um hd, tx_uk hd, tx_ur hd, tx_ul hd, mtf_len hd.2.1, mtf_24, mtf_30, mtf_31, mtf_32, mtf_25 hd.2.1, mtf_26 hd.2.1, mtf_27 hd.2.1, mtf_28 hd.2.1, mtf_29 hd.2.1, mtf_33 hd.2.1, mtf_s25, mtf_s26, mtf_s27, mtf_s28, mtf_s29, mtf_s33, hd.2.2.1, hd.2.2.2.1, hd.2.2.2.2.1, hd.2.2.2.2.2, tx_nt hd, tx_nm hd, tx_nk hd, tx_nr hd, tx_nl hd, vp_nar_int32, efr, eto]
    exact C68 _ _ _ _ _ _ _ _ _ _ _ (by assumption)
  have C55 : ∀ (xs : Int32) (xr : Int32) (xp : Int32) (xc : Int32) (xn : Int32) (xm : Nat → Int32) (v4 : Int32) (v5 : Int32) (v6 : Int32) (o7 : Option jv) (s1 : Int32), (xs = 0 ∨ xs = 1) → jJ E jcl 8 M (jQ E jcl M (fun r σ' n' => ∃ sd' ri' pa' cl' nu' men', (sd' = 0 ∨ sd' = 1) ∧ r = none ∧ n' = n ∧ σ' = (txS σ P g sd' ri' pa' cl' nu' mv men' km kr li)) 0 0) n 0 0 55 [some (.inr (.inr (some (.inl (P.1))))), some (.inl mo), some (.inl (nI a)), some (.inl (nI b)), some (.inl v4), some (.inl v5), some (.inl v6), o7] [.inl s1, .inr (.inr (some (.inl (P.1))))] (txS σ P g xs xr xp xc xn mv xm km kr li) := by
    intro xs xr xp xc xn xm v4 v5 v6 o7 s1 c0
    refine jrun_ok jC X k_MT_make_55 55 _ _ _ o_MT_make_55 ?_
    simp only [k_MT_make_55, jrun, jstep, jldi, jldl, jlda, j1, j2, jl1, jl2, jli, ja1, jbr, jald, jast, jlald, jlast, jalen, jget, jput, jfit, jdup, jdupx, jdupx2, jdup2, jcat, jset1, jset2, jkill, List.getElem?_cons_zero, List.getElem?_cons_succ, List.set_cons_zero, List.set_cons_succ, List.length_cons, List.length_nil, Nat.reduceAdd, Nat.reduceLT, Int32.reduceToNatClampNeg, true_and, and_true, and_self, reduceCtorEq, not_false_eq_true, false_and, and_false, or_false, false_or, true_or, or_true, tx_t hd, tx_m hd, tx_k hd, tx_r hd, tx_l hd, tx_ut hd, tx_um hd, tx_uk hd, tx_ur hd, tx_ul hd, mtf_len hd.2.1, mtf_24, mtf_30, mtf_31, mtf_32, mtf_25 hd.2.1, mtf_26 hd.2.1, mtf_27 hd.2.1, mtf_28 hd.2.1, mtf_29 hd.2.1, mtf_33 hd.2.1, mtf_s25, mtf_s26, mtf_s27, mtf_s28, mtf_s29, mtf_s33, hd.2.2.1, hd.2.2.2.1, hd.2.2.2.2.1, hd.2.2.2.2.2, tx_nt hd, tx_nm hd, tx_nk hd, tx_nr hd, tx_nl hd, vp_nar_int32, efr, eto]
    exact ⟨fun h55 => C62 _ _ _ _ _ _ _ _ _ _ (by assumption), fun h55 => C58 _ _ _ _ _ _ _ _ _ _ (by assumption)⟩
  have C42 : ∀ (xs : Int32) (xr : Int32) (xp : Int32) (xc : Int32) (xn : Int32) (xm : Nat → Int32) (v4 : Int32) (v5 : Int32) (o6 : Option jv) (o7 : Option jv) (s0 : Int32), (xs = 0 ∨ xs = 1) → jJ E jcl 8 M (jQ E jcl M (fun r σ' n' => ∃ sd' ri' pa' cl' nu' men', (sd' = 0 ∨ sd' = 1) ∧ r = none ∧ n' = n ∧ σ' = (txS σ P g sd' ri' pa' cl' nu' mv men' km kr li)) 0 0) n 0 0 42 [some (.inr (.inr (some (.inl (P.1))))), some (.inl mo), some (.inl (nI a)), some (.inl (nI b)), some (.inl v4), some (.inl v5), o6, o7] [.inl s0] (txS σ P g xs xr xp xc xn mv xm km kr li) := by
    intro xs xr xp xc xn xm v4 v5 o6 o7 s0 c0
    refine jrun_ok jC X k_MT_make_42 42 _ _ _ o_MT_make_42 ?_
    simp only [k_MT_make_42, jrun, jstep, jldi, jldl, jlda, j1, j2, jl1, jl2, jli, ja1, jbr, jald, jast, jlald, jlast, jalen, jget, jput, jfit, jdup, jdupx, jdupx2, jdup2, jcat, jset1, jset2, jkill, List.getElem?_cons_zero, List.getElem?_cons_succ, List.set_cons_zero, List.set_cons_succ, List.length_cons, List.length_nil, Nat.reduceAdd, Nat.reduceLT, Int32.reduceToNatClampNeg, true_and, and_true, and_self, reduceCtorEq, not_false_eq_true, false_and, and_false, or_false, false_or, true_or, or_true, tx_t hd, tx_m hd, tx_k hd, tx_r hd, tx_l hd, tx_ut hd, tx_um hd, tx_uk hd, tx_ur hd, tx_ul hd, mtf_len hd.2.1, mtf_24, mtf_30, mtf_31, mtf_32, mtf_25 hd.2.1, mtf_26 hd.2.1, mtf_27 hd.2.1, mtf_28 hd.2.1, mtf_29 hd.2.1, mtf_33 hd.2.1, mtf_s25, mtf_s26, mtf_s27, mtf_s28, mtf_s29, mtf_s33, hd.2.2.1, hd.2.2.2.1, hd.2.2.2.2.1, hd.2.2.2.2.2, tx_nt hd, tx_nm hd, tx_nk hd, tx_nr hd, tx_nl hd, vp_nar_int32, efr, eto]
    refine ⟨fun h47 => C58 _ _ _ _ _ _ _ _ _ _ (by assumption), fun h47 => ?_⟩
    refine jk_VB X hR d_MT_make_52 q_MT_make_52 m_MT_isTaking i_MT_isTaking e_MT_isTaking (ci := 12) rfl rfl (tx_nt hd) (tx_t hd) (c_MT_isTaking M.2.1 E _ _ _ _ _ _ (tx_nt hd) (tx_t hd) (mtf_24.trans hd.2.2.1) (tx_nm hd) (tx_m hd) mo (by rw [efr]; exact vp_in_nI ha (by omega)) (by rw [eto]; exact vp_in_nI hb (by omega))) rfl rfl ⟨Nat.le_of_ble_eq_true rfl, Nat.le_of_ble_eq_true rfl⟩ ⟨rfl, rfl⟩ ⟨Nat.le_of_ble_eq_true rfl, Nat.le_of_ble_eq_true rfl⟩ (Nat.le_of_ble_eq_true rfl) (pc' := 55) rfl ?_
    intro vb cb
    exact C55 _ _ _ _ _ _ _ _ _ _ _ (by assumption)
  have C41 : ∀ (xs : Int32) (xr : Int32) (xp : Int32) (xc : Int32) (xn : Int32) (xm : Nat → Int32) (v4 : Int32) (v5 : Int32) (o6 : Option jv) (o7 : Option jv), (xs = 0 ∨ xs = 1) → jJ E jcl 8 M (jQ E jcl M (fun r σ' n' => ∃ sd' ri' pa' cl' nu' men', (sd' = 0 ∨ sd' = 1) ∧ r = none ∧ n' = n ∧ σ' = (txS σ P g sd' ri' pa' cl' nu' mv men' km kr li)) 0 0) n 0 0 41 [some (.inr (.inr (some (.inl (P.1))))), some (.inl mo), some (.inl (nI a)), some (.inl (nI b)), some (.inl v4), some (.inl v5), o6, o7] [] (txS σ P g xs xr xp xc xn mv xm km kr li) := by
    intro xs xr xp xc xn xm v4 v5 o6 o7 c0
    refine jrun_ok jC X k_MT_make_41 41 _ _ _ o_MT_make_41 ?_
    simp only [k_MT_make_41, jrun, jstep, jldi, jldl, jlda, j1, j2, jl1, jl2, jli, ja1, jbr, jald, jast, jlald, jlast, jalen, jget, jput, jfit, jdup, jdupx, jdupx2, jdup2, jcat, jset1, jset2, jkill, List.getElem?_cons_zero, List.getElem?_cons_succ, List.set_cons_zero, List.set_cons_succ, List.length_cons, List.length_nil, Nat.reduceAdd, Nat.reduceLT, Int32.reduceToNatClampNeg, true_and, and_true, and_self, reduceCtorEq, not_false_eq_true, false_and, and_false, or_false, false_or, true_or, or_true, tx_t hd, tx_m hd, tx_k hd, tx_r hd, tx_l hd, tx_ut hd, tx_um hd, tx_uk hd, tx_ur hd, tx_ul hd, mtf_len hd.2.1, mtf_24, mtf_30, mtf_31, mtf_32, mtf_25 hd.2.1, mtf_26 hd.2.1, mtf_27 hd.2.1, mtf_28 hd.2.1, mtf_29 hd.2.1, mtf_33 hd.2.1, mtf_s25, mtf_s26, mtf_s27, mtf_s28, mtf_s29, mtf_s33, hd.2.2.1, hd.2.2.2.1, hd.2.2.2.2.1, hd.2.2.2.2.2, tx_nt hd, tx_nm hd, tx_nk hd, tx_nr hd, tx_nl hd, vp_nar_int32, efr, eto]
    exact C42 _ _ _ _ _ _ _ _ _ _ _ (by assumption)
  have C33 : ∀ (xs : Int32) (xr : Int32) (xp : Int32) (xc : Int32) (xn : Int32) (xm : Nat → Int32) (v4 : Int32) (v5 : Int32) (o6 : Option jv) (o7 : Option jv) (s0 : Int32), (xs = 0 ∨ xs = 1) → jJ E jcl 8 M (jQ E jcl M (fun r σ' n' => ∃ sd' ri' pa' cl' nu' men', (sd' = 0 ∨ sd' = 1) ∧ r = none ∧ n' = n ∧ σ' = (txS σ P g sd' ri' pa' cl' nu' mv men' km kr li)) 0 0) n 0 0 33 [some (.inr (.inr (some (.inl (P.1))))), some (.inl mo), some (.inl (nI a)), some (.inl (nI b)), some (.inl v4), some (.inl v5), o6, o7] [.inl s0] (txS σ P g xs xr xp xc xn mv xm km kr li) := by
    intro xs xr xp xc xn xm v4 v5 o6 o7 s0 c0
    refine jrun_ok jC X k_MT_make_33 33 _ _ _ o_MT_make_33 ?_
    simp only [k_MT_make_33, jrun, jstep, jldi, jldl, jlda, j1, j2, jl1, jl2, jli, ja1, jbr, jald, jast, jlald, jlast, jalen, jget, jput, jfit, jdup, jdupx, jdupx2, jdup2, jcat, jset1, jset2, jkill, List.getElem?_cons_zero, List.getElem?_cons_succ, List.set_cons_zero, List.set_cons_succ, List.length_cons, List.length_nil, Nat.reduceAdd, Nat.reduceLT, Int32.reduceToNatClampNeg, true_and, and_true, and_self, reduceCtorEq, not_false_eq_true, false_and, and_false, or_false, false_or, true_or, or_true, tx_t hd, tx_m hd, tx_k hd, tx_r hd, tx_l hd, tx_ut hd, tx_um hd, tx_uk hd, tx_ur hd, tx_ul hd, mtf_len hd.2.1, mtf_24, mtf_30, mtf_31, mtf_32, mtf_25 hd.2.1, mtf_26 hd.2.1, mtf_27 hd.2.1, mtf_28 hd.2.1, mtf_29 hd.2.1, mtf_33 hd.2.1, mtf_s25, mtf_s26, mtf_s27, mtf_s28, mtf_s29, mtf_s33, hd.2.2.1, hd.2.2.2.1, hd.2.2.2.2.1, hd.2.2.2.2.2, tx_nt hd, tx_nm hd, tx_nk hd, tx_nr hd, tx_nl hd, vp_nar_int32, efr, eto]
    exact ⟨fun h34 => C41 _ _ _ _ _ _ _ _ _ _ (by assumption), fun h34 => C42 _ _ _ _ _ _ _ _ _ _ _ (by assumption)⟩
  refine jrun_ok jC X k_MT_make_0 0 _ _ _ o_MT_make_0 ?_
  simp only [k_MT_make_0, jrun, jstep, jldi, jldl, jlda, j1, j2, jl1, jl2, jli, ja1, jbr, jald, jast, jlald, jlast, jalen, jget, jput, jfit, jdup, jdupx, jdupx2, jdup2, jcat, jset1, jset2, jkill, List.getElem?_cons_zero, List.getElem?_cons_succ, List.set_cons_zero, List.set_cons_succ, List.length_cons, List.length_nil, Nat.reduceAdd, Nat.reduceLT, Int32.reduceToNatClampNeg, true_and, and_true, and_self, reduceCtorEq, not_false_eq_true, false_and, and_false, or_false, false_or, true_or, or_true, tx_t hd, tx_m hd, tx_k hd, tx_r hd, tx_l hd, tx_ut hd, tx_um hd, tx_uk hd, tx_ur hd, tx_ul hd, mtf_len hd.2.1, mtf_24, mtf_30, mtf_31, mtf_32, mtf_25 hd.2.1, mtf_26 hd.2.1, mtf_27 hd.2.1, mtf_28 hd.2.1, mtf_29 hd.2.1, mtf_33 hd.2.1, mtf_s25, mtf_s26, mtf_s27, mtf_s28, mtf_s29, mtf_s33, hd.2.2.1, hd.2.2.2.1, hd.2.2.2.2.1, hd.2.2.2.2.2, tx_nt hd, tx_nm hd, tx_nk hd, tx_nr hd, tx_nl hd, vp_nar_int32, efr, eto]
  refine ⟨by decide, ⟨by decide, ⟨by decide, ⟨by decide, ⟨(vp_in_nI ha (by omega)), ?_⟩⟩⟩⟩⟩
  refine jk_Si X hR d_MT_make_30 q_MT_make_30 m_MT_kind s_MT_kind (c_MT_kind M.2.1 E _ _ _) rfl rfl ⟨Nat.le_of_ble_eq_true rfl, Nat.le_of_ble_eq_true rfl⟩ ⟨rfl, rfl⟩ ⟨Nat.le_of_ble_eq_true rfl, Nat.le_of_ble_eq_true rfl⟩ (Nat.le_of_ble_eq_true rfl) (pc' := 33) rfl ?_
  exact C33 _ _ _ _ _ _ _ _ _ _ _ (by assumption)
set_option maxRecDepth 100000 in
set_option maxHeartbeats 4000000 in
theorem c_MT_isSafe (l : Launch) (E : jE) (σ : Nat → jcell) (n : Nat) (P : txp) (g : List jv) (hd : txd P g n) (sd ri pa cl nu mv : Int32) (men km kr li : Nat → Int32) (hsd : sd = 0 ∨ sd = 1) (mo : Int32) (a b : Nat) (ha : a < 64) (hb : b < 64) (efr : mo - mo / 64 * 64 = nI a) (eto : mo / 64 - mo / 64 / 64 * 64 = nI b) : jMet l E jcl jtb lw_tbl y_MT_isSafe { frames := 4, cells := 0, slots := 0, locals := 180 } [.inr (.inr (some (.inl (P.1)))), .inl mo] (txS σ P g sd ri pa cl nu mv men km kr li) n (fun r σ' n' => ∃ (b : Int32) (men' km' kr' : Nat → Int32), (b = 0 ∨ b = 1) ∧ (∀ j, j < 64 → men' j = men j) ∧ r = some (.inl b) ∧ n' = n ∧ σ' = (txS σ P g sd ri pa cl nu mv men' km' kr' li)) := by
  refine jMet_of (hY := rfl) false (fun h => by cases h) (by decide) (Nat.le_of_ble_eq_true rfl) [some (.inr (.inr (some (.inl (P.1))))), some (.inl mo), none] rfl ?_
  intro M hl hR X hr
  refine jrun_ok jC X k_MT_isSafe_0 0 _ _ _ o_MT_isSafe_0 ?_
  simp only [k_MT_isSafe_0, jrun, jstep, jldi, jldl, jlda, j1, j2, jl1, jl2, jli, ja1, jbr, jald, jast, jlald, jlast, jalen, jget, jput, jfit, jdup, jdupx, jdupx2, jdup2, jcat, jset1, jset2, jkill, List.getElem?_cons_zero, List.getElem?_cons_succ, List.set_cons_zero, List.set_cons_succ, List.length_cons, List.length_nil, Nat.reduceAdd, Nat.reduceLT, Int32.reduceToNatClampNeg, true_and, and_true, and_self, reduceCtorEq, not_false_eq_true, false_and, and_false, or_false, false_or, true_or, or_true, tx_t hd, tx_m hd, tx_k hd, tx_r hd, tx_l hd, tx_ut hd, tx_um hd, tx_uk hd, tx_ur hd, tx_ul hd, mtf_len hd.2.1, mtf_24, mtf_30, mtf_31, mtf_32, mtf_25 hd.2.1, mtf_26 hd.2.1, mtf_27 hd.2.1, mtf_28 hd.2.1, mtf_29 hd.2.1, mtf_33 hd.2.1, mtf_s25, mtf_s26, mtf_s27, mtf_s28, mtf_s29, mtf_s33, hd.2.2.1, hd.2.2.2.1, hd.2.2.2.2.1, hd.2.2.2.2.2, tx_nt hd, tx_nm hd, tx_nk hd, tx_nr hd, tx_nl hd, vp_nar_int32]
  refine jk_Vg X hR d_MT_isSafe_1 q_MT_isSafe_1 m_MT_keep i_MT_keep e_MT_keep (ci := 12) rfl rfl (tx_nt hd) (tx_t hd) (c_MT_keep M.2.1 E _ _ _ _ hd _ _ _ _ _ _ _ _ _ _) rfl rfl ⟨Nat.le_of_ble_eq_true rfl, Nat.le_of_ble_eq_true rfl⟩ (c' := 0) rfl (s' := 0) rfl ⟨Nat.le_of_ble_eq_true rfl, Nat.le_of_ble_eq_true rfl⟩ (Nat.le_of_ble_eq_true rfl) (pc' := 4) rfl ?_
  rintro _ _ _ ⟨km2, kr2, hkm, r0, r1, r2, r3, r4, rfl, hn2, rfl⟩
  obtain rfl : n = _ := hn2.symm
  simp only [Option.toList_none, List.nil_append]
  refine jrun_ok jC X k_MT_isSafe_4 4 _ _ _ o_MT_isSafe_4 ?_
  simp only [k_MT_isSafe_4, jrun, jstep, jldi, jldl, jlda, j1, j2, jl1, jl2, jli, ja1, jbr, jald, jast, jlald, jlast, jalen, jget, jput, jfit, jdup, jdupx, jdupx2, jdup2, jcat, jset1, jset2, jkill, List.getElem?_cons_zero, List.getElem?_cons_succ, List.set_cons_zero, List.set_cons_succ, List.length_cons, List.length_nil, Nat.reduceAdd, Nat.reduceLT, Int32.reduceToNatClampNeg, true_and, and_true, and_self, reduceCtorEq, not_false_eq_true, false_and, and_false, or_false, false_or, true_or, or_true, tx_t hd, tx_m hd, tx_k hd, tx_r hd, tx_l hd, tx_ut hd, tx_um hd, tx_uk hd, tx_ur hd, tx_ul hd, mtf_len hd.2.1, mtf_24, mtf_30, mtf_31, mtf_32, mtf_25 hd.2.1, mtf_26 hd.2.1, mtf_27 hd.2.1, mtf_28 hd.2.1, mtf_29 hd.2.1, mtf_33 hd.2.1, mtf_s25, mtf_s26, mtf_s27, mtf_s28, mtf_s29, mtf_s33, hd.2.2.1, hd.2.2.2.1, hd.2.2.2.2.1, hd.2.2.2.2.2, tx_nt hd, tx_nm hd, tx_nk hd, tx_nr hd, tx_nl hd, vp_nar_int32]
  refine jk_Vg X hR d_MT_isSafe_6 q_MT_isSafe_6 m_MT_make i_MT_make e_MT_make (ci := 12) rfl rfl (tx_nt hd) (tx_t hd) (c_MT_make M.2.1 E _ _ _ _ hd _ _ _ _ _ _ _ _ _ _ hsd mo a b ha hb efr eto) rfl rfl ⟨Nat.le_of_ble_eq_true rfl, Nat.le_of_ble_eq_true rfl⟩ (c' := 0) rfl (s' := 0) rfl ⟨Nat.le_of_ble_eq_true rfl, Nat.le_of_ble_eq_true rfl⟩ (Nat.le_of_ble_eq_true rfl) (pc' := 9) rfl ?_
  rintro _ _ _ ⟨sd2, ri2, pa2, cl2, nu2, men2, hsd2, rfl, hn2, rfl⟩
  obtain rfl : n = _ := hn2.symm
  simp only [Option.toList_none, List.nil_append]
  refine jrun_ok jC X k_MT_isSafe_9 9 _ _ _ o_MT_isSafe_9 ?_
  simp only [k_MT_isSafe_9, jrun, jstep, jldi, jldl, jlda, j1, j2, jl1, jl2, jli, ja1, jbr, jald, jast, jlald, jlast, jalen, jget, jput, jfit, jdup, jdupx, jdupx2, jdup2, jcat, jset1, jset2, jkill, List.getElem?_cons_zero, List.getElem?_cons_succ, List.set_cons_zero, List.set_cons_succ, List.length_cons, List.length_nil, Nat.reduceAdd, Nat.reduceLT, Int32.reduceToNatClampNeg, true_and, and_true, and_self, reduceCtorEq, not_false_eq_true, false_and, and_false, or_false, false_or, true_or, or_true, tx_t hd, tx_m hd, tx_k hd, tx_r hd, tx_l hd, tx_ut hd, tx_um hd, tx_uk hd, tx_ur hd, tx_ul hd, mtf_len hd.2.1, mtf_24, mtf_30, mtf_31, mtf_32, mtf_25 hd.2.1, mtf_26 hd.2.1, mtf_27 hd.2.1, mtf_28 hd.2.1, mtf_29 hd.2.1, mtf_33 hd.2.1, mtf_s25, mtf_s26, mtf_s27, mtf_s28, mtf_s29, mtf_s33, hd.2.2.1, hd.2.2.2.1, hd.2.2.2.2.1, hd.2.2.2.2.2, tx_nt hd, tx_nm hd, tx_nk hd, tx_nr hd, tx_nl hd, vp_nar_int32]
  refine jk_VB X hR d_MT_isSafe_16 q_MT_isSafe_16 m_MT_isInCheck i_MT_isInCheck e_MT_isInCheck (ci := 12) rfl rfl (tx_nt hd) (tx_t hd) (c_MT_isInCheck M.2.1 E _ _ _ _ _ _ (tx_nt hd) (tx_t hd) (mtf_24.trans hd.2.2.1) (tx_nm hd) (tx_m hd) _) rfl rfl ⟨Nat.le_of_ble_eq_true rfl, Nat.le_of_ble_eq_true rfl⟩ ⟨rfl, rfl⟩ ⟨Nat.le_of_ble_eq_true rfl, Nat.le_of_ble_eq_true rfl⟩ (Nat.le_of_ble_eq_true rfl) (pc' := 19) rfl ?_
  intro vb cb
  have C27 : ∀ s0 : Int32, (s0 = 0 ∨ s0 = 1) → jJ E jcl 3 M (jQ E jcl M (fun r σ' n' => ∃ (b : Int32) (men' km' kr' : Nat → Int32), (b = 0 ∨ b = 1) ∧ (∀ j, j < 64 → men' j = men j) ∧ r = some (.inl b) ∧ n' = n ∧ σ' = (txS σ P g sd ri pa cl nu mv men' km' kr' li)) 0 0) n 0 0 27 [some (.inr (.inr (some (.inl (P.1))))), some (.inl mo), none] [.inl s0] (txS σ P g sd2 ri2 pa2 cl2 nu2 mv men2 km2 kr2 li) := by
    intro s0 h0
    refine jrun_ok jC X k_MT_isSafe_27 27 _ _ _ o_MT_isSafe_27 ?_
    simp only [k_MT_isSafe_27, jrun, jstep, jldi, jldl, jlda, j1, j2, jl1, jl2, jli, ja1, jbr, jald, jast, jlald, jlast, jalen, jget, jput, jfit, jdup, jdupx, jdupx2, jdup2, jcat, jset1, jset2, jkill, List.getElem?_cons_zero, List.getElem?_cons_succ, List.set_cons_zero, List.set_cons_succ, List.length_cons, List.length_nil, Nat.reduceAdd, Nat.reduceLT, Int32.reduceToNatClampNeg, true_and, and_true, and_self, reduceCtorEq, not_false_eq_true, false_and, and_false, or_false, false_or, true_or, or_true, tx_t hd, tx_m hd, tx_k hd, tx_r hd, tx_l hd, tx_ut hd, tx_um hd, tx_uk hd, tx_ur hd, tx_ul hd, mtf_len hd.2.1, mtf_24, mtf_30, mtf_31, mtf_32, mtf_25 hd.2.1, mtf_26 hd.2.1, mtf_27 hd.2.1, mtf_28 hd.2.1, mtf_29 hd.2.1, mtf_33 hd.2.1, mtf_s25, mtf_s26, mtf_s27, mtf_s28, mtf_s29, mtf_s33, hd.2.2.1, hd.2.2.2.1, hd.2.2.2.2.1, hd.2.2.2.2.2, tx_nt hd, tx_nm hd, tx_nk hd, tx_nr hd, tx_nl hd, vp_nar_int32]
    refine jk_Vg X hR d_MT_isSafe_29 q_MT_isSafe_29 m_MT_bringBack i_MT_bringBack e_MT_bringBack (ci := 12) rfl rfl (tx_nt hd) (tx_t hd) (c_MT_bringBack M.2.1 E _ _ _ _ hd _ _ _ _ _ _ _ _ _ _) rfl rfl ⟨Nat.le_of_ble_eq_true rfl, Nat.le_of_ble_eq_true rfl⟩ (c' := 0) rfl (s' := 0) rfl ⟨Nat.le_of_ble_eq_true rfl, Nat.le_of_ble_eq_true rfl⟩ (Nat.le_of_ble_eq_true rfl) (pc' := 32) rfl ?_
    rintro _ _ _ ⟨men3, hm3, rfl, hn2, rfl⟩
    obtain rfl : n = _ := hn2.symm
    simp only [Option.toList_none, List.nil_append]
    refine jrun_ok jC X k_MT_isSafe_32 32 _ _ _ o_MT_isSafe_32 ?_
    simp only [k_MT_isSafe_32, jrun, jstep, jldi, jldl, jlda, j1, j2, jl1, jl2, jli, ja1, jbr, jald, jast, jlald, jlast, jalen, jget, jput, jfit, jdup, jdupx, jdupx2, jdup2, jcat, jset1, jset2, jkill, List.getElem?_cons_zero, List.getElem?_cons_succ, List.set_cons_zero, List.set_cons_succ, List.length_cons, List.length_nil, Nat.reduceAdd, Nat.reduceLT, Int32.reduceToNatClampNeg, true_and, and_true, and_self, reduceCtorEq, not_false_eq_true, false_and, and_false, or_false, false_or, true_or, or_true, tx_t hd, tx_m hd, tx_k hd, tx_r hd, tx_l hd, tx_ut hd, tx_um hd, tx_uk hd, tx_ur hd, tx_ul hd, mtf_len hd.2.1, mtf_24, mtf_30, mtf_31, mtf_32, mtf_25 hd.2.1, mtf_26 hd.2.1, mtf_27 hd.2.1, mtf_28 hd.2.1, mtf_29 hd.2.1, mtf_33 hd.2.1, mtf_s25, mtf_s26, mtf_s27, mtf_s28, mtf_s29, mtf_s33, hd.2.2.1, hd.2.2.2.1, hd.2.2.2.2.1, hd.2.2.2.2.2, tx_nt hd, tx_nm hd, tx_nk hd, tx_nr hd, tx_nl hd, vp_nar_int32]
    rw [r0, r1, r2, r3, r4]
    exact jk_iret X d_MT_isSafe_33 hr (bo_n h0) (Nat.le_refl _) (Nat.le_refl _) ⟨s0, men3, km2, kr2, h0, fun j hj => (hm3 j hj).trans (hkm j hj), rfl, rfl, rfl⟩
  refine jrun_ok jC X k_MT_isSafe_19 19 _ _ _ o_MT_isSafe_19 ?_
  simp only [k_MT_isSafe_19, jrun, jstep, jldi, jldl, jlda, j1, j2, jl1, jl2, jli, ja1, jbr, jald, jast, jlald, jlast, jalen, jget, jput, jfit, jdup, jdupx, jdupx2, jdup2, jcat, jset1, jset2, jkill, List.getElem?_cons_zero, List.getElem?_cons_succ, List.set_cons_zero, List.set_cons_succ, List.length_cons, List.length_nil, Nat.reduceAdd, Nat.reduceLT, Int32.reduceToNatClampNeg, true_and, and_true, and_self, reduceCtorEq, not_false_eq_true, false_and, and_false, or_false, false_or, true_or, or_true, tx_t hd, tx_m hd, tx_k hd, tx_r hd, tx_l hd, tx_ut hd, tx_um hd, tx_uk hd, tx_ur hd, tx_ul hd, mtf_len hd.2.1, mtf_24, mtf_30, mtf_31, mtf_32, mtf_25 hd.2.1, mtf_26 hd.2.1, mtf_27 hd.2.1, mtf_28 hd.2.1, mtf_29 hd.2.1, mtf_33 hd.2.1, mtf_s25, mtf_s26, mtf_s27, mtf_s28, mtf_s29, mtf_s33, hd.2.2.1, hd.2.2.2.1, hd.2.2.2.2.1, hd.2.2.2.2.2, tx_nt hd, tx_nm hd, tx_nk hd, tx_nr hd, tx_nl hd, vp_nar_int32]
  refine ⟨fun _ => ?_, fun _ => C27 _ (Or.inr rfl)⟩
  refine jrun_ok jC X k_MT_isSafe_26 26 _ _ _ o_MT_isSafe_26 ?_
  simp only [k_MT_isSafe_26, jrun, jstep, jldi, jldl, jlda, j1, j2, jl1, jl2, jli, ja1, jbr, jald, jast, jlald, jlast, jalen, jget, jput, jfit, jdup, jdupx, jdupx2, jdup2, jcat, jset1, jset2, jkill, List.getElem?_cons_zero, List.getElem?_cons_succ, List.set_cons_zero, List.set_cons_succ, List.length_cons, List.length_nil, Nat.reduceAdd, Nat.reduceLT, Int32.reduceToNatClampNeg, true_and, and_true, and_self, reduceCtorEq, not_false_eq_true, false_and, and_false, or_false, false_or, true_or, or_true, tx_t hd, tx_m hd, tx_k hd, tx_r hd, tx_l hd, tx_ut hd, tx_um hd, tx_uk hd, tx_ur hd, tx_ul hd, mtf_len hd.2.1, mtf_24, mtf_30, mtf_31, mtf_32, mtf_25 hd.2.1, mtf_26 hd.2.1, mtf_27 hd.2.1, mtf_28 hd.2.1, mtf_29 hd.2.1, mtf_33 hd.2.1, mtf_s25, mtf_s26, mtf_s27, mtf_s28, mtf_s29, mtf_s33, hd.2.2.1, hd.2.2.2.1, hd.2.2.2.2.1, hd.2.2.2.2.2, tx_nt hd, tx_nm hd, tx_nk hd, tx_nr hd, tx_nl hd, vp_nar_int32]
  exact C27 _ (Or.inl rfl)
end
