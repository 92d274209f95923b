section
/-! static things that never change: texts, the constants of an enum, what statics hold -/
abbrev jSv : Type := Int32 ⊕ Nat
abbrev jSl : Type := List (Nat × String × List (String × String × String × jSv)) × List (String × String × String × jSv) × List (Nat × FieldType × Nat × (Nat → Int32)) × List (Nat × String × Nat × (Nat → Nat)) × List (String × Nat × String × Nat)
noncomputable def jSvv (ad : Nat → Nat) (v : jSv) : Value := match v with
  | .inl x => .int x
  | .inr j => .ref (ad j)
noncomputable def jSo (ad : Nat → Nat) (A : Nat → Prop) (L : jSl) (U : State) : Prop :=
  (∀ q ∈ L.1, va_O q.2.1 (ad q.1) A U U.heap ∧ ∀ f ∈ q.2.2, va_OF f.1 f.2.1 f.2.2.1 (jSvv ad f.2.2.2) (ad q.1) A U U.heap) ∧ (∀ q ∈ L.2.1, va_Z q.1 q.2.1 q.2.2.1 (jSvv ad q.2.2.2) A U U.heap) ∧ (∀ q ∈ L.2.2.1, va_T q.2.1 (ad q.1) q.2.2.1 (fun i => .int (q.2.2.2 i)) A U U.heap) ∧ (∀ q ∈ L.2.2.2.1, va_T (.object q.2.1) (ad q.1) q.2.2.1 (fun i => .ref (ad (q.2.2.2 i))) A U U.heap) ∧ (∀ q ∈ L.2.2.2.2, vk_R q.1 q.2.1 q.2.2.1 (ad q.2.2.2) U) ∧ (va_Z "jdk/internal/util/Preconditions" "SIOOBE_FORMATTER" "Ljava/util/function/BiFunction;" .null A U U.heap ∨ va_Z "jdk/internal/util/Preconditions" "SIOOBE_FORMATTER" "Ljava/util/function/BiFunction;" (.ref (ad 5000)) A U U.heap)
theorem jSo_go {ad : Nat → Nat} {A : Nat → Prop} {L : jSl} {U V : State} (h : jSo ad A L U) (hvm : U.vm.Alike V.vm) (hq : ∀ a : Nat, a < U.heap.size → ¬ A a → V.heap[a]? = U.heap[a]?) (hR : ∀ (own : String) (k : Nat) (tx : String) (a : Nat), vk_R own k tx a U → vk_R own k tx a V) : jSo ad A L V := by
  obtain ⟨h1, h2, h3, h4, h5, h6⟩ := h
  exact ⟨fun q hq1 => ⟨((h1 q hq1).1.kept hq).moved hvm, fun f hf => (((h1 q hq1).2 f hf).kept hq).moved hvm⟩, fun q hq1 => ((h2 q hq1).kept hq).moved hvm, fun q hq1 => ((h3 q hq1).kept hq).moved hvm, fun q hq1 => ((h4 q hq1).kept hq).moved hvm, fun q hq1 => hR _ _ _ _ (h5 q hq1), h6.imp (fun h => (h.kept hq).moved hvm) (fun h => (h.kept hq).moved hvm)⟩
noncomputable def js_ob : List (Nat × String × List (String × String × String × jSv)) := [(1000, "java/lang/String", [("java/lang/String", "coder", "B", .inl 0), ("java/lang/String", "value", "[B", .inr 2000)]), (1001, "java/lang/String", [("java/lang/String", "coder", "B", .inl 0), ("java/lang/String", "value", "[B", .inr 2001)]), (1002, "java/lang/String", [("java/lang/String", "coder", "B", .inl 0), ("java/lang/String", "value", "[B", .inr 2002)]), (1003, "java/lang/String", [("java/lang/String", "coder", "B", .inl 0), ("java/lang/String", "value", "[B", .inr 2003)]), (1004, "java/lang/String", [("java/lang/String", "coder", "B", .inl 0), ("java/lang/String", "value", "[B", .inr 2004)]), (1005, "java/lang/String", [("java/lang/String", "coder", "B", .inl 0), ("java/lang/String", "value", "[B", .inr 2005)]), (1006, "java/lang/String", [("java/lang/String", "coder", "B", .inl 0), ("java/lang/String", "value", "[B", .inr 2006)]), (1007, "java/lang/String", [("java/lang/String", "coder", "B", .inl 0), ("java/lang/String", "value", "[B", .inr 2007)]), (1008, "java/lang/String", [("java/lang/String", "coder", "B", .inl 0), ("java/lang/String", "value", "[B", .inr 2008)]), (1009, "java/lang/String", [("java/lang/String", "coder", "B", .inl 0), ("java/lang/String", "value", "[B", .inr 2009)]), (1010, "java/lang/String", [("java/lang/String", "coder", "B", .inl 0), ("java/lang/String", "value", "[B", .inr 2010)]), (1011, "java/lang/String", [("java/lang/String", "coder", "B", .inl 0), ("java/lang/String", "value", "[B", .inr 2011)]), (1012, "java/lang/String", [("java/lang/String", "coder", "B", .inl 0), ("java/lang/String", "value", "[B", .inr 2012)]), (1013, "java/lang/String", [("java/lang/String", "coder", "B", .inl 0), ("java/lang/String", "value", "[B", .inr 2013)]), (1014, "java/lang/String", [("java/lang/String", "coder", "B", .inl 0), ("java/lang/String", "value", "[B", .inr 2014)]), (1015, "java/lang/String", [("java/lang/String", "coder", "B", .inl 0), ("java/lang/String", "value", "[B", .inr 2015)]), (1016, "java/lang/String", [("java/lang/String", "coder", "B", .inl 0), ("java/lang/String", "value", "[B", .inr 2016)]), (1017, "java/lang/String", [("java/lang/String", "coder", "B", .inl 0), ("java/lang/String", "value", "[B", .inr 2017)]), (1018, "java/lang/String", [("java/lang/String", "coder", "B", .inl 0), ("java/lang/String", "value", "[B", .inr 2018)]), (1019, "java/lang/String", [("java/lang/String", "coder", "B", .inl 0), ("java/lang/String", "value", "[B", .inr 2019)]), (1020, "java/lang/String", [("java/lang/String", "coder", "B", .inl 0), ("java/lang/String", "value", "[B", .inr 2020)]), (1021, "java/lang/String", [("java/lang/String", "coder", "B", .inl 0), ("java/lang/String", "value", "[B", .inr 2021)]), (1022, "java/lang/String", [("java/lang/String", "coder", "B", .inl 0), ("java/lang/String", "value", "[B", .inr 2022)]), (1023, "java/lang/String", [("java/lang/String", "coder", "B", .inl 0), ("java/lang/String", "value", "[B", .inr 2023)]), (1024, "java/lang/String", [("java/lang/String", "coder", "B", .inl 0), ("java/lang/String", "value", "[B", .inr 2024)]), (1025, "java/lang/String", [("java/lang/String", "coder", "B", .inl 0), ("java/lang/String", "value", "[B", .inr 2025)]), (1026, "java/lang/String", [("java/lang/String", "coder", "B", .inl 0), ("java/lang/String", "value", "[B", .inr 2026)]), (1027, "java/lang/String", [("java/lang/String", "coder", "B", .inl 0), ("java/lang/String", "value", "[B", .inr 2027)]), (1028, "java/lang/String", [("java/lang/String", "coder", "B", .inl 0), ("java/lang/String", "value", "[B", .inr 2028)]), (1029, "java/lang/String", [("java/lang/String", "coder", "B", .inl 0), ("java/lang/String", "value", "[B", .inr 2029)]), (1030, "java/lang/String", [("java/lang/String", "coder", "B", .inl 0), ("java/lang/String", "value", "[B", .inr 2030)]), (1031, "java/lang/String", [("java/lang/String", "coder", "B", .inl 0), ("java/lang/String", "value", "[B", .inr 2031)]), (1032, "java/lang/String", [("java/lang/String", "coder", "B", .inl 0), ("java/lang/String", "value", "[B", .inr 2032)]), (1033, "java/lang/String", [("java/lang/String", "coder", "B", .inl 0), ("java/lang/String", "value", "[B", .inr 2033)]), (1034, "java/lang/String", [("java/lang/String", "coder", "B", .inl 0), ("java/lang/String", "value", "[B", .inr 2034)]), (1035, "java/lang/String", [("java/lang/String", "coder", "B", .inl 0), ("java/lang/String", "value", "[B", .inr 2035)]), (1036, "java/lang/String", [("java/lang/String", "coder", "B", .inl 0), ("java/lang/String", "value", "[B", .inr 2036)]), (1037, "java/lang/String", [("java/lang/String", "coder", "B", .inl 0), ("java/lang/String", "value", "[B", .inr 2037)]), (1038, "java/lang/String", [("java/lang/String", "coder", "B", .inl 0), ("java/lang/String", "value", "[B", .inr 2038)]), (1039, "java/lang/String", [("java/lang/String", "coder", "B", .inl 0), ("java/lang/String", "value", "[B", .inr 2039)]), (1040, "java/lang/String", [("java/lang/String", "coder", "B", .inl 0), ("java/lang/String", "value", "[B", .inr 2040)]), (1041, "java/lang/String", [("java/lang/String", "coder", "B", .inl 0), ("java/lang/String", "value", "[B", .inr 2041)]), (1042, "java/lang/String", [("java/lang/String", "coder", "B", .inl 0), ("java/lang/String", "value", "[B", .inr 2042)]), (1043, "java/lang/String", [("java/lang/String", "coder", "B", .inl 0), ("java/lang/String", "value", "[B", .inr 2043)]), (1044, "java/lang/String", [("java/lang/String", "coder", "B", .inl 0), ("java/lang/String", "value", "[B", .inr 2044)]), (1045, "java/lang/String", [("java/lang/String", "coder", "B", .inl 0), ("java/lang/String", "value", "[B", .inr 2045)]), (1046, "java/lang/String", [("java/lang/String", "coder", "B", .inl 0), ("java/lang/String", "value", "[B", .inr 2046)]), (1047, "java/lang/String", [("java/lang/String", "coder", "B", .inl 0), ("java/lang/String", "value", "[B", .inr 2047)]), (1048, "java/lang/String", [("java/lang/String", "coder", "B", .inl 0), ("java/lang/String", "value", "[B", .inr 2048)]), (1049, "java/lang/String", [("java/lang/String", "coder", "B", .inl 0), ("java/lang/String", "value", "[B", .inr 2049)]), (3000, "ChessHouse$Command", [("ChessHouse$Command", "hasText", "Z", .inl 0), ("ChessHouse$Command", "least", "I", .inl 0), ("ChessHouse$Command", "most", "I", .inl 0), ("ChessHouse$Command", "word", "Ljava/lang/String;", .inr 1049), ("java/lang/Enum", "ordinal", "I", .inl 0)]), (3001, "ChessHouse$Command", [("ChessHouse$Command", "hasText", "Z", .inl 0), ("ChessHouse$Command", "least", "I", .inl 1), ("ChessHouse$Command", "most", "I", .inl 1), ("ChessHouse$Command", "word", "Ljava/lang/String;", .inr 1025), ("java/lang/Enum", "ordinal", "I", .inl 1)]), (3002, "ChessHouse$Command", [("ChessHouse$Command", "hasText", "Z", .inl 1), ("ChessHouse$Command", "least", "I", .inl 1), ("ChessHouse$Command", "most", "I", .inl 0), ("ChessHouse$Command", "word", "Ljava/lang/String;", .inr 1021), ("java/lang/Enum", "ordinal", "I", .inl 2)]), (3003, "ChessHouse$Command", [("ChessHouse$Command", "hasText", "Z", .inl 0), ("ChessHouse$Command", "least", "I", .inl 1), ("ChessHouse$Command", "most", "I", .inl 1), ("ChessHouse$Command", "word", "Ljava/lang/String;", .inr 1026), ("java/lang/Enum", "ordinal", "I", .inl 3)]), (3004, "ChessHouse$Command", [("ChessHouse$Command", "hasText", "Z", .inl 0), ("ChessHouse$Command", "least", "I", .inl 1), ("ChessHouse$Command", "most", "I", .inl 1), ("ChessHouse$Command", "word", "Ljava/lang/String;", .inr 1027), ("java/lang/Enum", "ordinal", "I", .inl 4)]), (3005, "ChessHouse$Command", [("ChessHouse$Command", "hasText", "Z", .inl 0), ("ChessHouse$Command", "least", "I", .inl 1), ("ChessHouse$Command", "most", "I", .inl 1), ("ChessHouse$Command", "word", "Ljava/lang/String;", .inr 1035), ("java/lang/Enum", "ordinal", "I", .inl 5)]), (3006, "ChessHouse$Command", [("ChessHouse$Command", "hasText", "Z", .inl 0), ("ChessHouse$Command", "least", "I", .inl 1), ("ChessHouse$Command", "most", "I", .inl 1), ("ChessHouse$Command", "word", "Ljava/lang/String;", .inr 1036), ("java/lang/Enum", "ordinal", "I", .inl 6)]), (3007, "ChessHouse$Command", [("ChessHouse$Command", "hasText", "Z", .inl 0), ("ChessHouse$Command", "least", "I", .inl 1), ("ChessHouse$Command", "most", "I", .inl 1), ("ChessHouse$Command", "word", "Ljava/lang/String;", .inr 1028), ("java/lang/Enum", "ordinal", "I", .inl 7)]), (3008, "ChessHouse$Command", [("ChessHouse$Command", "hasText", "Z", .inl 0), ("ChessHouse$Command", "least", "I", .inl 2), ("ChessHouse$Command", "most", "I", .inl 65536), ("ChessHouse$Command", "word", "Ljava/lang/String;", .inr 1029), ("java/lang/Enum", "ordinal", "I", .inl 8)]), (3009, "ChessHouse$Command", [("ChessHouse$Command", "hasText", "Z", .inl 0), ("ChessHouse$Command", "least", "I", .inl 2), ("ChessHouse$Command", "most", "I", .inl 2), ("ChessHouse$Command", "word", "Ljava/lang/String;", .inr 1030), ("java/lang/Enum", "ordinal", "I", .inl 9)]), (3010, "ChessHouse$Command", [("ChessHouse$Command", "hasText", "Z", .inl 0), ("ChessHouse$Command", "least", "I", .inl 2), ("ChessHouse$Command", "most", "I", .inl 2), ("ChessHouse$Command", "word", "Ljava/lang/String;", .inr 1031), ("java/lang/Enum", "ordinal", "I", .inl 10)]), (3011, "ChessHouse$Command", [("ChessHouse$Command", "hasText", "Z", .inl 0), ("ChessHouse$Command", "least", "I", .inl 2), ("ChessHouse$Command", "most", "I", .inl 2), ("ChessHouse$Command", "word", "Ljava/lang/String;", .inr 1032), ("java/lang/Enum", "ordinal", "I", .inl 11)]), (3012, "ChessHouse$Command", [("ChessHouse$Command", "hasText", "Z", .inl 1), ("ChessHouse$Command", "least", "I", .inl 1), ("ChessHouse$Command", "most", "I", .inl 0), ("ChessHouse$Command", "word", "Ljava/lang/String;", .inr 1022), ("java/lang/Enum", "ordinal", "I", .inl 12)]), (3013, "ChessHouse$Command", [("ChessHouse$Command", "hasText", "Z", .inl 0), ("ChessHouse$Command", "least", "I", .inl 1), ("ChessHouse$Command", "most", "I", .inl 1), ("ChessHouse$Command", "word", "Ljava/lang/String;", .inr 1033), ("java/lang/Enum", "ordinal", "I", .inl 13)]), (3014, "ChessHouse$Command", [("ChessHouse$Command", "hasText", "Z", .inl 0), ("ChessHouse$Command", "least", "I", .inl 2), ("ChessHouse$Command", "most", "I", .inl 2), ("ChessHouse$Command", "word", "Ljava/lang/String;", .inr 1034), ("java/lang/Enum", "ordinal", "I", .inl 14)]), (3015, "ChessHouse$Command", [("ChessHouse$Command", "hasText", "Z", .inl 1), ("ChessHouse$Command", "least", "I", .inl 1), ("ChessHouse$Command", "most", "I", .inl 0), ("ChessHouse$Command", "word", "Ljava/lang/String;", .inr 1023), ("java/lang/Enum", "ordinal", "I", .inl 15)]), (3016, "ChessHouse$Command", [("ChessHouse$Command", "hasText", "Z", .inl 0), ("ChessHouse$Command", "least", "I", .inl 1), ("ChessHouse$Command", "most", "I", .inl 1), ("ChessHouse$Command", "word", "Ljava/lang/String;", .inr 1037), ("java/lang/Enum", "ordinal", "I", .inl 16)]), (3017, "ChessHouse$Command", [("ChessHouse$Command", "hasText", "Z", .inl 0), ("ChessHouse$Command", "least", "I", .inl 2), ("ChessHouse$Command", "most", "I", .inl 2), ("ChessHouse$Command", "word", "Ljava/lang/String;", .inr 1038), ("java/lang/Enum", "ordinal", "I", .inl 17)]), (3018, "ChessHouse$Command", [("ChessHouse$Command", "hasText", "Z", .inl 0), ("ChessHouse$Command", "least", "I", .inl 1), ("ChessHouse$Command", "most", "I", .inl 1), ("ChessHouse$Command", "word", "Ljava/lang/String;", .inr 1039), ("java/lang/Enum", "ordinal", "I", .inl 18)]), (3019, "ChessHouse$Command", [("ChessHouse$Command", "hasText", "Z", .inl 0), ("ChessHouse$Command", "least", "I", .inl 2), ("ChessHouse$Command", "most", "I", .inl 3), ("ChessHouse$Command", "word", "Ljava/lang/String;", .inr 1040), ("java/lang/Enum", "ordinal", "I", .inl 19)]), (3020, "ChessHouse$Command", [("ChessHouse$Command", "hasText", "Z", .inl 0), ("ChessHouse$Command", "least", "I", .inl 4), ("ChessHouse$Command", "most", "I", .inl 4), ("ChessHouse$Command", "word", "Ljava/lang/String;", .inr 1041), ("java/lang/Enum", "ordinal", "I", .inl 20)]), (3021, "ChessHouse$Command", [("ChessHouse$Command", "hasText", "Z", .inl 0), ("ChessHouse$Command", "least", "I", .inl 2), ("ChessHouse$Command", "most", "I", .inl 2), ("ChessHouse$Command", "word", "Ljava/lang/String;", .inr 1042), ("java/lang/Enum", "ordinal", "I", .inl 21)]), (3022, "ChessHouse$Command", [("ChessHouse$Command", "hasText", "Z", .inl 0), ("ChessHouse$Command", "least", "I", .inl 4), ("ChessHouse$Command", "most", "I", .inl 4), ("ChessHouse$Command", "word", "Ljava/lang/String;", .inr 1044), ("java/lang/Enum", "ordinal", "I", .inl 22)]), (3023, "ChessHouse$Command", [("ChessHouse$Command", "hasText", "Z", .inl 0), ("ChessHouse$Command", "least", "I", .inl 4), ("ChessHouse$Command", "most", "I", .inl 4), ("ChessHouse$Command", "word", "Ljava/lang/String;", .inr 1045), ("java/lang/Enum", "ordinal", "I", .inl 23)]), (3024, "ChessHouse$Command", [("ChessHouse$Command", "hasText", "Z", .inl 0), ("ChessHouse$Command", "least", "I", .inl 5), ("ChessHouse$Command", "most", "I", .inl 5), ("ChessHouse$Command", "word", "Ljava/lang/String;", .inr 1046), ("java/lang/Enum", "ordinal", "I", .inl 24)]), (3025, "ChessHouse$Command", [("ChessHouse$Command", "hasText", "Z", .inl 0), ("ChessHouse$Command", "least", "I", .inl 3), ("ChessHouse$Command", "most", "I", .inl 3), ("ChessHouse$Command", "word", "Ljava/lang/String;", .inr 1047), ("java/lang/Enum", "ordinal", "I", .inl 25)]), (3026, "ChessHouse$Command", [("ChessHouse$Command", "hasText", "Z", .inl 0), ("ChessHouse$Command", "least", "I", .inl 4), ("ChessHouse$Command", "most", "I", .inl 4), ("ChessHouse$Command", "word", "Ljava/lang/String;", .inr 1048), ("java/lang/Enum", "ordinal", "I", .inl 26)]), (3027, "ChessHouse$Command", [("ChessHouse$Command", "hasText", "Z", .inl 0), ("ChessHouse$Command", "least", "I", .inl 1), ("ChessHouse$Command", "most", "I", .inl 1), ("ChessHouse$Command", "word", "Ljava/lang/String;", .inr 1043), ("java/lang/Enum", "ordinal", "I", .inl 27)])]
noncomputable def js_st : List (String × String × String × jSv) := [("ChessHouse$Command", "NONE", "LChessHouse$Command;", .inr 3000), ("ChessHouse$Command", "NEW", "LChessHouse$Command;", .inr 3001), ("ChessHouse$Command", "SET", "LChessHouse$Command;", .inr 3002), ("ChessHouse$Command", "GAME", "LChessHouse$Command;", .inr 3003), ("ChessHouse$Command", "WRITE", "LChessHouse$Command;", .inr 3004), ("ChessHouse$Command", "FEN", "LChessHouse$Command;", .inr 3005), ("ChessHouse$Command", "MOVES", "LChessHouse$Command;", .inr 3006), ("ChessHouse$Command", "OTHERS", "LChessHouse$Command;", .inr 3007), ("ChessHouse$Command", "PLAY", "LChessHouse$Command;", .inr 3008), ("ChessHouse$Command", "BACK", "LChessHouse$Command;", .inr 3009), ("ChessHouse$Command", "GO", "LChessHouse$Command;", .inr 3010), ("ChessHouse$Command", "MARK", "LChessHouse$Command;", .inr 3011), ("ChessHouse$Command", "SAY", "LChessHouse$Command;", .inr 3012), ("ChessHouse$Command", "LEAD", "LChessHouse$Command;", .inr 3013), ("ChessHouse$Command", "END", "LChessHouse$Command;", .inr 3014), ("ChessHouse$Command", "TAG", "LChessHouse$Command;", .inr 3015), ("ChessHouse$Command", "STATE", "LChessHouse$Command;", .inr 3016), ("ChessHouse$Command", "WAYS", "LChessHouse$Command;", .inr 3017), ("ChessHouse$Command", "SIGHT", "LChessHouse$Command;", .inr 3018), ("ChessHouse$Command", "THINK", "LChessHouse$Command;", .inr 3019), ("ChessHouse$Command", "TEST", "LChessHouse$Command;", .inr 3020), ("ChessHouse$Command", "TABLE", "LChessHouse$Command;", .inr 3021), ("ChessHouse$Command", "KEYS", "LChessHouse$Command;", .inr 3022), ("ChessHouse$Command", "LEAST", "LChessHouse$Command;", .inr 3023), ("ChessHouse$Command", "REFUTE", "LChessHouse$Command;", .inr 3024), ("ChessHouse$Command", "HELP", "LChessHouse$Command;", .inr 3025), ("ChessHouse$Command", "LINE", "LChessHouse$Command;", .inr 3026), ("ChessHouse$Command", "ENDS", "LChessHouse$Command;", .inr 3027), ("ChessHouse$Command", "ALL", "[LChessHouse$Command;", .inr 4000), ("java/lang/String", "COMPACT_STRINGS", "Z", .inl 1)]
noncomputable def js_b2000 : List Int32 := [32, 80, 78, 66, 82, 81, 75, 32, 32, 112, 110, 98, 114, 113, 107]
noncomputable def js_b2001 : List Int32 := [75, 81, 107, 113]
noncomputable def js_b2002 : List Int32 := [49, 45, 48]
noncomputable def js_b2003 : List Int32 := [48, 45, 49]
noncomputable def js_b2004 : List Int32 := [49, 47, 50, 45, 49, 47, 50]
noncomputable def js_b2005 : List Int32 := [42]
noncomputable def js_b2006 : List Int32 := [79, 45, 79]
noncomputable def js_b2007 : List Int32 := [79, 45, 79, 45, 79]
noncomputable def js_b2008 : List Int32 := [32, 32, 78, 66, 82, 81, 75]
noncomputable def js_b2009 : List Int32 := [32, 34]
noncomputable def js_b2010 : List Int32 := [34, 93]
noncomputable def js_b2011 : List Int32 := [46]
noncomputable def js_b2012 : List Int32 := [46, 46, 46]
noncomputable def js_b2013 : List Int32 := [61, 32]
noncomputable def js_b2014 : List Int32 := [45, 32]
noncomputable def js_b2015 : List Int32 := [32]
noncomputable def js_b2016 : List Int32 := [99, 97, 108, 109]
noncomputable def js_b2017 : List Int32 := [115, 101, 108, 102]
noncomputable def js_b2018 : List Int32 := [109, 97, 116, 101]
noncomputable def js_b2019 : List Int32 := [100, 105, 114, 101, 99, 116]
noncomputable def js_b2020 : List Int32 := [115, 116, 97, 108, 101]
noncomputable def js_b2021 : List Int32 := [115, 101, 116]
noncomputable def js_b2022 : List Int32 := [115, 97, 121]
noncomputable def js_b2023 : List Int32 := [116, 97, 103]
noncomputable def js_b2024 : List Int32 := [70, 69, 78]
noncomputable def js_b2025 : List Int32 := [110, 101, 119]
noncomputable def js_b2026 : List Int32 := [103, 97, 109, 101]
noncomputable def js_b2027 : List Int32 := [119, 114, 105, 116, 101]
noncomputable def js_b2028 : List Int32 := [111, 116, 104, 101, 114, 115]
noncomputable def js_b2029 : List Int32 := [112, 108, 97, 121]
noncomputable def js_b2030 : List Int32 := [98, 97, 99, 107]
noncomputable def js_b2031 : List Int32 := [103, 111]
noncomputable def js_b2032 : List Int32 := [109, 97, 114, 107]
noncomputable def js_b2033 : List Int32 := [108, 101, 97, 100]
noncomputable def js_b2034 : List Int32 := [101, 110, 100]
noncomputable def js_b2035 : List Int32 := [102, 101, 110]
noncomputable def js_b2036 : List Int32 := [109, 111, 118, 101, 115]
noncomputable def js_b2037 : List Int32 := [115, 116, 97, 116, 101]
noncomputable def js_b2038 : List Int32 := [119, 97, 121, 115]
noncomputable def js_b2039 : List Int32 := [115, 105, 103, 104, 116]
noncomputable def js_b2040 : List Int32 := [116, 104, 105, 110, 107]
noncomputable def js_b2041 : List Int32 := [116, 101, 115, 116]
noncomputable def js_b2042 : List Int32 := [116, 97, 98, 108, 101]
noncomputable def js_b2043 : List Int32 := [101, 110, 100, 115]
noncomputable def js_b2044 : List Int32 := [107, 101, 121, 115]
noncomputable def js_b2045 : List Int32 := [108, 101, 97, 115, 116]
noncomputable def js_b2046 : List Int32 := [114, 101, 102, 117, 116, 101]
noncomputable def js_b2047 : List Int32 := [104, 101, 108, 112]
noncomputable def js_b2048 : List Int32 := [108, 105, 110, 101]
noncomputable def js_b2049 : List Int32 := []
noncomputable def js_ro : List (Nat × FieldType × Nat × (Nat → Int32)) := [(2000, .byte, 15, fun i => js_b2000.getD i 0), (2001, .byte, 4, fun i => js_b2001.getD i 0), (2002, .byte, 3, fun i => js_b2002.getD i 0), (2003, .byte, 3, fun i => js_b2003.getD i 0), (2004, .byte, 7, fun i => js_b2004.getD i 0), (2005, .byte, 1, fun i => js_b2005.getD i 0), (2006, .byte, 3, fun i => js_b2006.getD i 0), (2007, .byte, 5, fun i => js_b2007.getD i 0), (2008, .byte, 7, fun i => js_b2008.getD i 0), (2009, .byte, 2, fun i => js_b2009.getD i 0), (2010, .byte, 2, fun i => js_b2010.getD i 0), (2011, .byte, 1, fun i => js_b2011.getD i 0), (2012, .byte, 3, fun i => js_b2012.getD i 0), (2013, .byte, 2, fun i => js_b2013.getD i 0), (2014, .byte, 2, fun i => js_b2014.getD i 0), (2015, .byte, 1, fun i => js_b2015.getD i 0), (2016, .byte, 4, fun i => js_b2016.getD i 0), (2017, .byte, 4, fun i => js_b2017.getD i 0), (2018, .byte, 4, fun i => js_b2018.getD i 0), (2019, .byte, 6, fun i => js_b2019.getD i 0), (2020, .byte, 5, fun i => js_b2020.getD i 0), (2021, .byte, 3, fun i => js_b2021.getD i 0), (2022, .byte, 3, fun i => js_b2022.getD i 0), (2023, .byte, 3, fun i => js_b2023.getD i 0), (2024, .byte, 3, fun i => js_b2024.getD i 0), (2025, .byte, 3, fun i => js_b2025.getD i 0), (2026, .byte, 4, fun i => js_b2026.getD i 0), (2027, .byte, 5, fun i => js_b2027.getD i 0), (2028, .byte, 6, fun i => js_b2028.getD i 0), (2029, .byte, 4, fun i => js_b2029.getD i 0), (2030, .byte, 4, fun i => js_b2030.getD i 0), (2031, .byte, 2, fun i => js_b2031.getD i 0), (2032, .byte, 4, fun i => js_b2032.getD i 0), (2033, .byte, 4, fun i => js_b2033.getD i 0), (2034, .byte, 3, fun i => js_b2034.getD i 0), (2035, .byte, 3, fun i => js_b2035.getD i 0), (2036, .byte, 5, fun i => js_b2036.getD i 0), (2037, .byte, 5, fun i => js_b2037.getD i 0), (2038, .byte, 4, fun i => js_b2038.getD i 0), (2039, .byte, 5, fun i => js_b2039.getD i 0), (2040, .byte, 5, fun i => js_b2040.getD i 0), (2041, .byte, 4, fun i => js_b2041.getD i 0), (2042, .byte, 5, fun i => js_b2042.getD i 0), (2043, .byte, 4, fun i => js_b2043.getD i 0), (2044, .byte, 4, fun i => js_b2044.getD i 0), (2045, .byte, 5, fun i => js_b2045.getD i 0), (2046, .byte, 6, fun i => js_b2046.getD i 0), (2047, .byte, 4, fun i => js_b2047.getD i 0), (2048, .byte, 4, fun i => js_b2048.getD i 0), (2049, .byte, 0, fun i => js_b2049.getD i 0)]
noncomputable def js_r4000 : List Nat := [3000, 3001, 3002, 3003, 3004, 3005, 3006, 3007, 3008, 3009, 3010, 3011, 3012, 3013, 3014, 3015, 3016, 3017, 3018, 3019, 3020, 3021, 3022, 3023, 3024, 3025, 3026, 3027]
noncomputable def js_re : List (Nat × String × Nat × (Nat → Nat)) := [(4000, "ChessHouse$Command", 28, fun i => js_r4000.getD i 0)]
noncomputable def js_co : List (String × Nat × String × Nat) := [("ChessHouse$Board", 179, " PNBRQK  pnbrqk", 1000), ("ChessHouse$Board", 186, "KQkq", 1001), ("ChessHouse$Game", 80, "1-0", 1002), ("ChessHouse$Game", 82, "0-1", 1003), ("ChessHouse$Game", 84, "1/2-1/2", 1004), ("ChessHouse$Game", 86, "*", 1005), ("ChessHouse$Signs", 70, "O-O", 1006), ("ChessHouse$Signs", 76, "O-O-O", 1007), ("ChessHouse$Signs", 84, "  NBRQK", 1008), ("ChessHouse$GameWriter", 101, " \"", 1009), ("ChessHouse$GameWriter", 109, "\"]", 1010), ("ChessHouse$GameWriter", 128, ".", 1011), ("ChessHouse$GameWriter", 130, "...", 1012), ("ChessHouse$GameWriter", 72, "= ", 1013), ("ChessHouse$Board", 197, "- ", 1014), ("ChessHouse$Board", 199, " ", 1015), ("ChessHouse", 406, "calm", 1016), ("ChessHouse", 441, "self", 1017), ("ChessHouse", 443, "mate", 1018), ("ChessHouse", 445, "direct", 1019), ("ChessHouse", 447, "stale", 1020), ("ChessHouseModel", 139, "set", 1021), ("ChessHouseModel", 143, "say", 1022), ("ChessHouseModel", 147, "tag", 1023), ("ChessHouseModel", 338, "FEN", 1024), ("ChessHouseModel", 163, "new", 1025), ("ChessHouseModel", 180, "game", 1026), ("ChessHouseModel", 184, "write", 1027), ("ChessHouseModel", 189, "others", 1028), ("ChessHouseModel", 193, "play", 1029), ("ChessHouseModel", 197, "back", 1030), ("ChessHouseModel", 205, "go", 1031), ("ChessHouseModel", 213, "mark", 1032), ("ChessHouseModel", 217, "lead", 1033), ("ChessHouseModel", 221, "end", 1034), ("ChessHouseModel", 321, "*", 1005), ("ChessHouseModel", 323, "1-0", 1002), ("ChessHouseModel", 325, "0-1", 1003), ("ChessHouseModel", 327, "1/2-1/2", 1004), ("ChessHouseModel", 381, "fen", 1035), ("ChessHouseModel", 390, "moves", 1036), ("ChessHouseModel", 397, "state", 1037), ("ChessHouseModel", 401, "ways", 1038), ("ChessHouseModel", 412, "sight", 1039), ("ChessHouseModel", 417, "calm", 1016), ("ChessHouseModel", 419, "think", 1040), ("ChessHouseModel", 424, "test", 1041), ("ChessHouseModel", 430, "table", 1042), ("ChessHouseModel", 432, "ends", 1043), ("ChessHouseModel", 490, "keys", 1044), ("ChessHouseModel", 492, "direct", 1019), ("ChessHouseModel", 494, "self", 1017), ("ChessHouseModel", 500, "mate", 1018), ("ChessHouseModel", 502, "stale", 1020), ("ChessHouseModel", 506, "least", 1045), ("ChessHouseModel", 510, "refute", 1046), ("ChessHouseModel", 514, "help", 1047), ("ChessHouseModel", 518, "line", 1048), ("ChessHouse$Command", 123, "", 1049), ("ChessHouse$Command", 129, "new", 1025), ("ChessHouse$Command", 132, "set", 1021), ("ChessHouse$Command", 135, "game", 1026), ("ChessHouse$Command", 138, "write", 1027), ("ChessHouse$Command", 141, "fen", 1035), ("ChessHouse$Command", 144, "moves", 1036), ("ChessHouse$Command", 147, "others", 1028), ("ChessHouse$Command", 150, "play", 1029), ("ChessHouse$Command", 154, "back", 1030), ("ChessHouse$Command", 157, "go", 1031), ("ChessHouse$Command", 160, "mark", 1032), ("ChessHouse$Command", 163, "say", 1022), ("ChessHouse$Command", 166, "lead", 1033), ("ChessHouse$Command", 169, "end", 1034), ("ChessHouse$Command", 172, "tag", 1023), ("ChessHouse$Command", 175, "state", 1037), ("ChessHouse$Command", 178, "ways", 1038), ("ChessHouse$Command", 181, "sight", 1039), ("ChessHouse$Command", 184, "think", 1040), ("ChessHouse$Command", 187, "test", 1041), ("ChessHouse$Command", 190, "table", 1042), ("ChessHouse$Command", 193, "keys", 1044), ("ChessHouse$Command", 196, "least", 1045), ("ChessHouse$Command", 198, "refute", 1046), ("ChessHouse$Command", 201, "help", 1047), ("ChessHouse$Command", 204, "line", 1048), ("ChessHouse$Command", 207, "ends", 1043)]
noncomputable def js0 : jSl := (js_ob, js_st, js_ro, js_re, js_co)
end
section
/-! THE J KIT: the machine over pictures. A method runs over ONE picture of all cells that the claim has made (places 0 .. n-1 above a base B): no frame rule is wanted. -/
abbrev jv : Type := Int32 ⊕ (Int64 ⊕ Option (Nat ⊕ Nat))
abbrev jcell : Type := (FieldType × vp_A) ⊕ (Nat × List jv)
abbrev jE : Type := va_G × (FieldType → ClassId) × (Nat → Nat) × Nat
abbrev jTb : Type := Nat → Option (String × String × String × FieldType × Nat × (Nat → Int32))
/-- a picture's value as the machine has it -/
noncomputable def jc (E : jE) (v : jv) : Value := match v with
  | .inl x => .int x
  | .inr (.inl x) => .long x
  | .inr (.inr none) => .null
  | .inr (.inr (some (.inl k))) => .ref (E.2.2.2 + k)
  | .inr (.inr (some (.inr j))) => .ref (E.2.2.1 j)
noncomputable def je (E : jE) (x : jcell) : va_E := match x with
  | .inl a => .inl (E.2.1 a.1, a.2)
  | .inr o => .inr (o.1, o.2.map (jc E))
/-- the element types of the arrays that pictures hold -/
noncomputable def jtys : List FieldType := [.int, .byte, .char, .long, .boolean]
/-- what is known of a cell: an array of another type stands for a cell of which nothing is known -/
noncomputable def jkn (x : jcell) : Prop := match x with
  | .inl a => a.1 ∈ jtys
  | .inr _ => True
noncomputable def jW (E : jE) (cl : List vw_C) (σ : Nat → jcell) (n : Nat) (H : Heap) : Prop :=
  H.size = E.2.2.2 + n ∧ ∀ k, k < n → jkn (σ k) → va_at E.1 cl (E.2.2.2 + k, je E (σ k)) H
noncomputable def jA (E : jE) : Nat → Prop := fun q => E.2.2.2 ≤ q
noncomputable def jup (σ : Nat → jcell) (k : Nat) (x : jcell) : Nat → jcell := fun j => if j = k then x else σ j
theorem jup_s {σ : Nat → jcell} {k : Nat} {x : jcell} : jup σ k x k = x := if_pos rfl
theorem jup_n {σ : Nat → jcell} {k j : Nat} {x : jcell} (h : j ≠ k) : jup σ k x j = σ j := if_neg h
noncomputable def jtyl (E : jE) : List (ClassId × FieldType) := jtys.map (fun t => (E.2.1 t, t))
/-- constant tables: a static field holds an array that never changes -/
noncomputable def jSt (E : jE) (tb : jTb) (U : State) : Prop := (∀ (j : Nat) (x : String × String × String × FieldType × Nat × (Nat → Int32)), tb j = some x →
  va_Z x.1 x.2.1 x.2.2.1 (.ref (E.2.2.1 j)) (jA E) U U.heap ∧ va_T x.2.2.2.1 (E.2.2.1 j) x.2.2.2.2.1 (fun i => .int (x.2.2.2.2.2 i)) (jA E) U U.heap) ∧ jSo E.2.2.1 (jA E) js0 U
/-- the words that every reader may carry, and those of nest mates -/
noncomputable def jgood (w : Jvm.Cond) : Bool := (w.onTables && w.keeps) || (match w with
  | .arrayClass _ => true
  | _ => false)
noncomputable def jnest (w : Jvm.Cond) : Bool := match w with
  | .fieldLinkNest .. => true
  | .methodLinkNest .. => true
  | _ => false
noncomputable def jTA (Ts : List Jvm.Cond) : List Jvm.Cond := Ts.filter jgood
noncomputable def jNW (Ts : List Jvm.Cond) : List Jvm.Cond := Ts.filter jnest
theorem jTA_in {Ts : List Jvm.Cond} {wi : Nat} {w : Jvm.Cond} (h : Ts[wi]? = some w) (hg : jgood w = true) : w ∈ jTA Ts := List.mem_filter.mpr ⟨List.mem_of_getElem? h, hg⟩
noncomputable def jK (E : jE) (cl : List vw_C) (tb : jTb) (Ts : List Jvm.Cond) (U : State) : Prop := va_K E.1 cl (jtyl E) U ∧ jSt E tb U ∧ E.2.2.2 ≤ U.heap.size ∧ ∀ w ∈ jNW Ts, va_Nw w U
/-! locals -/
noncomputable def jcat (v : jv) : Nat := match v with
  | .inr (.inl _) => 2
  | _ => 1
noncomputable def jlv (E : jE) (ls : Array Slot) (nL : Nat) (lv : List (Option jv)) : Prop := ls.size = nL ∧ lv_wf ls ∧ ∀ (i : Nat) (v : jv), lv[i]? = some (some v) → ls[i]? = some (.val (jc E v))
noncomputable def jpr (E : jE) : Nat → List (Option jv) → List (Nat × Value)
  | _, [] => []
  | i, none :: r => jpr E (i + 1) r
  | i, some v :: r => (i, jc E v) :: jpr E (i + 1) r
noncomputable def jkill (lv : List (Option jv)) (i : Nat) : List (Option jv) := match i with
  | 0 => lv
  | j + 1 => match lv[j]? with
    | some (some (.inr (.inl _))) => lv.set j none
    | _ => lv
noncomputable def jset1 (lv : List (Option jv)) (i : Nat) (v : jv) : List (Option jv) := (jkill lv i).set i (some v)
noncomputable def jset2 (lv : List (Option jv)) (i : Nat) (v : jv) : List (Option jv) := ((jkill lv i).set i (some v)).set (i + 1) none
/-! one instruction over a picture -/
abbrev jN : Type := Nat → List (Option jv) → List jv → (Nat → jcell) → Prop
/-- what an instruction carries besides: two numbers (kind of object and field; the jump's goal), the place of its word, an int, a long -/
abbrev jP : Type := Nat × Nat × Nat × Int32 × Int64
abbrev jI : Type := Instr × Nat × jP
noncomputable def j1 (st : List jv) (f : Int32 → List jv → Prop) : Prop := match st with
  | .inl x :: r => f x r
  | _ => False
noncomputable def j2 (st : List jv) (f : Int32 → Int32 → List jv → Prop) : Prop := match st with
  | .inl y :: .inl x :: r => f x y r
  | _ => False
noncomputable def jl1 (st : List jv) (f : Int64 → List jv → Prop) : Prop := match st with
  | .inr (.inl x) :: r => f x r
  | _ => False
noncomputable def jl2 (st : List jv) (f : Int64 → Int64 → List jv → Prop) : Prop := match st with
  | .inr (.inl y) :: .inr (.inl x) :: r => f x y r
  | _ => False
noncomputable def jli (st : List jv) (f : Int64 → Int32 → List jv → Prop) : Prop := match st with
  | .inl y :: .inr (.inl x) :: r => f x y r
  | _ => False
noncomputable def ja1 (st : List jv) (f : Option (Nat ⊕ Nat) → List jv → Prop) : Prop := match st with
  | .inr (.inr a) :: r => f a r
  | _ => False
noncomputable def jldi (lv : List (Option jv)) (i : Nat) (f : Int32 → Prop) : Prop := match lv[i]? with
  | some (some (.inl x)) => f x
  | _ => False
noncomputable def jldl (lv : List (Option jv)) (i : Nat) (f : Int64 → Prop) : Prop := match lv[i]? with
  | some (some (.inr (.inl x))) => f x
  | _ => False
noncomputable def jlda (lv : List (Option jv)) (i : Nat) (f : Option (Nat ⊕ Nat) → Prop) : Prop := match lv[i]? with
  | some (some (.inr (.inr a))) => f a
  | _ => False
noncomputable def jbr (c : Jvm.ClassFile.Cond) (x y : Int32) (A B : Prop) : Prop := match c with
  | .eq => (x = y → A) ∧ (¬ x = y → B)
  | .ne => (¬ x = y → A) ∧ (x = y → B)
  | .lt => (x < y → A) ∧ (¬ x < y → B)
  | .ge => (y ≤ x → A) ∧ (¬ y ≤ x → B)
  | .gt => (y < x → A) ∧ (¬ y < x → B)
  | .le => (x ≤ y → A) ∧ (¬ x ≤ y → B)
/-- an array of ints, bytes, chars or booleans is read -/
noncomputable def jald (tb : jTb) (σ : Nat → jcell) (n : Nat) (ty : FieldType) (st : List jv) (f : Int32 → List jv → Prop) : Prop := match st with
  | .inl i :: .inr (.inr (some (.inl a))) :: r => a < n ∧ (match σ a with
    | .inl (t, len, .inl g) => t = ty ∧ vp_in i len ∧ f (g i.toNatClampNeg) r
    | _ => False)
  | .inl i :: .inr (.inr (some (.inr j))) :: r => (match tb j with
    | some (_, _, _, t, len, g) => t = ty ∧ vp_in i len ∧ f (g i.toNatClampNeg) r
    | none => False)
  | _ => False
noncomputable def jast (σ : Nat → jcell) (n : Nat) (ty : FieldType) (st : List jv) (f : (Nat → jcell) → List jv → Prop) : Prop := match st with
  | .inl x :: .inl i :: .inr (.inr (some (.inl a))) :: r => a < n ∧ (match σ a with
    | .inl (t, len, .inl g) => t = ty ∧ vp_in i len ∧ f (jup σ a (.inl (t, len, .inl (upd g i.toNatClampNeg (vp_nar ty x))))) r
    | _ => False)
  | _ => False
noncomputable def jlald (σ : Nat → jcell) (n : Nat) (st : List jv) (f : Int64 → List jv → Prop) : Prop := match st with
  | .inl i :: .inr (.inr (some (.inl a))) :: r => a < n ∧ (match σ a with
    | .inl (t, len, .inr (.inl g)) => t = .long ∧ vp_in i len ∧ f (g i.toNatClampNeg) r
    | _ => False)
  | _ => False
noncomputable def jlast (σ : Nat → jcell) (n : Nat) (st : List jv) (f : (Nat → jcell) → List jv → Prop) : Prop := match st with
  | .inr (.inl x) :: .inl i :: .inr (.inr (some (.inl a))) :: r => a < n ∧ (match σ a with
    | .inl (t, len, .inr (.inl g)) => t = .long ∧ vp_in i len ∧ f (jup σ a (.inl (t, len, .inr (.inl (vp_updL g i.toNatClampNeg x))))) r
    | _ => False)
  | _ => False
noncomputable def jalen (tb : jTb) (σ : Nat → jcell) (n : Nat) (st : List jv) (f : Int32 → List jv → Prop) : Prop := match st with
  | .inr (.inr (some (.inl a))) :: r => a < n ∧ (match σ a with
    | .inl (t, len, _) => t ∈ jtys ∧ f (Int32.ofNat len) r
    | _ => False)
  | .inr (.inr (some (.inr j))) :: r => (match tb j with
    | some (_, _, _, _, len, _) => f (Int32.ofNat len) r
    | none => False)
  | _ => False
noncomputable def jget (σ : Nat → jcell) (n ci k : Nat) (st : List jv) (f : jv → List jv → Prop) : Prop := match st with
  | .inr (.inr (some (.inl a))) :: r => a < n ∧ (match σ a with
    | .inr (c, fs) => c = ci ∧ (match fs[k]? with
      | some v => f v r
      | none => False)
    | _ => False)
  | _ => False
/-- what may be stored in a field: 0 an int, 1 a boolean, 2 a long, 3 a reference -/
noncomputable def jfit (kd : Nat) (v : jv) : Prop := match kd, v with
  | 0, .inl _ => True
  | 1, .inl x => x = 0 ∨ x = 1
  | 2, .inr (.inl _) => True
  | 3, .inr (.inr _) => True
  | _, _ => False
noncomputable def jput (σ : Nat → jcell) (n ci k kd : Nat) (st : List jv) (f : (Nat → jcell) → List jv → Prop) : Prop := match st with
  | v :: .inr (.inr (some (.inl a))) :: r => a < n ∧ (match σ a with
    | .inr (c, fs) => c = ci ∧ k < fs.length ∧ jfit kd v ∧ f (jup σ a (.inr (c, fs.set k v))) r
    | _ => False)
  | _ => False
noncomputable def jdup (st : List jv) (f : jv → List jv → Prop) : Prop := match st with
  | v :: r => jcat v = 1 ∧ f v r
  | _ => False
noncomputable def jdupx (st : List jv) (f : jv → jv → List jv → Prop) : Prop := match st with
  | v :: w :: r => jcat v = 1 ∧ jcat w = 1 ∧ f v w r
  | _ => False
noncomputable def jdupx2 (st : List jv) (f : jv → jv → jv → List jv → Prop) : Prop := match st with
  | v :: w :: z :: r => jcat v = 1 ∧ jcat w = 1 ∧ jcat z = 1 ∧ f v w z r
  | _ => False
noncomputable def jdup2 (st : List jv) (f : List jv → Prop) : Prop := match st with
  | .inr (.inl x) :: r => f (.inr (.inl x) :: .inr (.inl x) :: r)
  | v :: w :: r => jcat v = 1 ∧ jcat w = 1 ∧ f (v :: w :: v :: w :: r)
  | _ => False
noncomputable def jstep (tb : jTb) (n : Nat) (I : Instr) (ln : Nat) (py : jP) (pc : Nat) (lv : List (Option jv)) (st : List jv) (σ : Nat → jcell) (nx lf : jN) : Prop := match I with
  | .aconst_null => nx (pc + ln) lv (.inr (.inr none) :: st) σ
  | .iconst _ => nx (pc + ln) lv (.inl py.2.2.2.1 :: st) σ
  | .bipush _ => nx (pc + ln) lv (.inl py.2.2.2.1 :: st) σ
  | .sipush _ => nx (pc + ln) lv (.inl py.2.2.2.1 :: st) σ
  | .ldc _ => nx (pc + ln) lv (.inl py.2.2.2.1 :: st) σ
  | .lconst _ => nx (pc + ln) lv (.inr (.inl py.2.2.2.2) :: st) σ
  | .ldc2_w _ => nx (pc + ln) lv (.inr (.inl py.2.2.2.2) :: st) σ
  | .iload_n _ => jldi lv py.1 fun x => nx (pc + ln) lv (.inl x :: st) σ
  | .iload k => jldi lv k fun x => nx (pc + ln) lv (.inl x :: st) σ
  | .lload_n _ => jldl lv py.1 fun x => nx (pc + ln) lv (.inr (.inl x) :: st) σ
  | .lload k => jldl lv k fun x => nx (pc + ln) lv (.inr (.inl x) :: st) σ
  | .aload_n _ => jlda lv py.1 fun x => nx (pc + ln) lv (.inr (.inr x) :: st) σ
  | .aload k => jlda lv k fun x => nx (pc + ln) lv (.inr (.inr x) :: st) σ
  | .istore_n _ => j1 st fun x r => nx (pc + ln) (jset1 lv py.1 (.inl x)) r σ
  | .istore k => j1 st fun x r => nx (pc + ln) (jset1 lv k (.inl x)) r σ
  | .lstore_n _ => jl1 st fun x r => nx (pc + ln) (jset2 lv py.1 (.inr (.inl x))) r σ
  | .lstore k => jl1 st fun x r => nx (pc + ln) (jset2 lv k (.inr (.inl x))) r σ
  | .astore_n _ => ja1 st fun x r => nx (pc + ln) (jset1 lv py.1 (.inr (.inr x))) r σ
  | .astore k => ja1 st fun x r => nx (pc + ln) (jset1 lv k (.inr (.inr x))) r σ
  | .iinc k _ => jldi lv k fun x => nx (pc + ln) (jset1 lv k (.inl (x + py.2.2.2.1))) st σ
  | .iadd => j2 st fun x y r => nx (pc + ln) lv (.inl (x + y) :: r) σ
  | .isub => j2 st fun x y r => nx (pc + ln) lv (.inl (x - y) :: r) σ
  | .imul => j2 st fun x y r => nx (pc + ln) lv (.inl (x * y) :: r) σ
  | .iand => j2 st fun x y r => nx (pc + ln) lv (.inl (x &&& y) :: r) σ
  | .ior => j2 st fun x y r => nx (pc + ln) lv (.inl (x ||| y) :: r) σ
  | .ixor => j2 st fun x y r => nx (pc + ln) lv (.inl (x ^^^ y) :: r) σ
  | .idiv => j2 st fun x y r => ¬ y = 0 ∧ nx (pc + ln) lv (.inl (x / y) :: r) σ
  | .irem => j2 st fun x y r => ¬ y = 0 ∧ nx (pc + ln) lv (.inl (x - x / y * y) :: r) σ
  | .ishl => j2 st fun x y r => nx (pc + ln) lv (.inl (x <<< (y &&& 31)) :: r) σ
  | .ishr => j2 st fun x y r => nx (pc + ln) lv (.inl (x >>> (y &&& 31)) :: r) σ
  | .iushr => j2 st fun x y r => nx (pc + ln) lv (.inl (x.toUInt32 >>> (y.toUInt32 &&& Int32.toUInt32 31)).toInt32 :: r) σ
  | .ineg => j1 st fun x r => nx (pc + ln) lv (.inl (-x) :: r) σ
  | .ladd => jl2 st fun x y r => nx (pc + ln) lv (.inr (.inl (x + y)) :: r) σ
  | .lsub => jl2 st fun x y r => nx (pc + ln) lv (.inr (.inl (x - y)) :: r) σ
  | .lmul => jl2 st fun x y r => nx (pc + ln) lv (.inr (.inl (x * y)) :: r) σ
  | .land => jl2 st fun x y r => nx (pc + ln) lv (.inr (.inl (x &&& y)) :: r) σ
  | .lor => jl2 st fun x y r => nx (pc + ln) lv (.inr (.inl (x ||| y)) :: r) σ
  | .lxor => jl2 st fun x y r => nx (pc + ln) lv (.inr (.inl (x ^^^ y)) :: r) σ
  | .ldiv => jl2 st fun x y r => ¬ y = 0 ∧ nx (pc + ln) lv (.inr (.inl (x / y)) :: r) σ
  | .lrem => jl2 st fun x y r => ¬ y = 0 ∧ nx (pc + ln) lv (.inr (.inl (x - x / y * y)) :: r) σ
  | .lneg => jl1 st fun x r => nx (pc + ln) lv (.inr (.inl (-x)) :: r) σ
  | .lshl => jli st fun x y r => nx (pc + ln) lv (.inr (.inl (x <<< (y.toInt64 &&& 63))) :: r) σ
  | .lshr => jli st fun x y r => nx (pc + ln) lv (.inr (.inl (x >>> (y.toInt64 &&& 63))) :: r) σ
  | .lushr => jli st fun x y r => nx (pc + ln) lv (.inr (.inl (x.toUInt64 >>> (y.toInt64.toUInt64 &&& Int64.toUInt64 63)).toInt64) :: r) σ
  | .lcmp => jl2 st fun x y r => nx (pc + ln) lv (.inl (lg_cmp x y) :: r) σ
  | .i2l => j1 st fun x r => nx (pc + ln) lv (.inr (.inl x.toInt64) :: r) σ
  | .l2i => jl1 st fun x r => nx (pc + ln) lv (.inl x.toInt32 :: r) σ
  | .i2b => j1 st fun x r => nx (pc + ln) lv (.inl x.toInt8.toInt32 :: r) σ
  | .i2c => j1 st fun x r => nx (pc + ln) lv (.inl (x.toUInt32 % 65536).toInt32 :: r) σ
  | .dup => jdup st fun v r => nx (pc + ln) lv (v :: v :: r) σ
  | .pop => jdup st fun _ r => nx (pc + ln) lv r σ
  | .dup_x1 => jdupx st fun v w r => nx (pc + ln) lv (v :: w :: v :: r) σ
  | .dup_x2 => jdupx2 st fun v w z r => nx (pc + ln) lv (v :: w :: z :: v :: r) σ
  | .dup2 => jdup2 st fun r => nx (pc + ln) lv r σ
  | .ifCond c _ => j1 st fun x r => jbr c x 0 (lf py.1 lv r σ) (nx (pc + ln) lv r σ)
  | .if_icmp c _ => j2 st fun x y r => jbr c x y (lf py.1 lv r σ) (nx (pc + ln) lv r σ)
  | .ifnull _ => ja1 st fun a r => (a = none → lf py.1 lv r σ) ∧ (¬ a = none → nx (pc + ln) lv r σ)
  | .ifnonnull _ => ja1 st fun a r => (¬ a = none → lf py.1 lv r σ) ∧ (a = none → nx (pc + ln) lv r σ)
  | .goto _ => lf py.1 lv st σ
  | .iaload => jald tb σ n .int st fun x r => nx (pc + ln) lv (.inl x :: r) σ
  | .caload => jald tb σ n .char st fun x r => nx (pc + ln) lv (.inl x :: r) σ
  | .baload => jald tb σ n (if py.1 = 0 then .byte else .boolean) st fun x r => nx (pc + ln) lv (.inl x :: r) σ
  | .laload => jlald σ n st fun x r => nx (pc + ln) lv (.inr (.inl x) :: r) σ
  | .iastore => jast σ n .int st fun σ' r => nx (pc + ln) lv r σ'
  | .castore => jast σ n .char st fun σ' r => nx (pc + ln) lv r σ'
  | .bastore => jast σ n (if py.1 = 0 then .byte else .boolean) st fun σ' r => nx (pc + ln) lv r σ'
  | .lastore => jlast σ n st fun σ' r => nx (pc + ln) lv r σ'
  | .arraylength => jalen tb σ n st fun x r => nx (pc + ln) lv (.inl x :: r) σ
  | .getfield _ => jget σ n py.1 py.2.1 st fun v r => nx (pc + ln) lv (v :: r) σ
  | .putfield _ => jput σ n py.1 py.2.1 py.2.2.2.1.toNatClampNeg st fun σ' r => nx (pc + ln) lv r σ'
  | .getstatic _ => nx (pc + ln) lv (.inr (.inr (some (.inr py.1))) :: st) σ
  | _ => False
noncomputable def jrun (tb : jTb) (n : Nat) : List jI → Nat → List (Option jv) → List jv → (Nat → jcell) → jN → Prop
  | [], pc, lv, st, σ, K => K pc lv st σ
  | i :: r, pc, lv, st, σ, K => jstep tb n i.1 i.2.1 i.2.2 pc lv st σ (fun a b c d => jrun tb n r a b c d K) K
end
section
/-! the static check of an instruction: what it decodes to, its word in the tables -/
noncomputable def jkd (t : Option FieldType) : Nat := match t with
  | some .int => 0
  | some .boolean => 1
  | some .long => 2
  | some (.object _) => 3
  | some (.array _) => 3
  | _ => 9
/-- the word of a field's link: its own, or that of a nest mate's private field -/
noncomputable def jlk (Ts : List Jvm.Cond) (wi : Nat) (own : String) (i : Nat) (ref nm ds : String) : Bool := match Ts[wi]? with
  | some (Jvm.Cond.fieldLink a b c e f) => decide (a = own) && decide (b = i) && decide (c = ref) && decide (e = nm) && decide (f = ds)
  | some (Jvm.Cond.fieldLinkNest a b c e f _) => decide (a = own) && decide (b = i) && decide (c = ref) && decide (e = nm) && decide (f = ds)
  | _ => false
theorem jlk_or {Ts : List Jvm.Cond} {wi : Nat} {own : String} {i : Nat} {ref nm ds : String} (h : jlk Ts wi own i ref nm ds = true) : Jvm.Cond.fieldLink own i ref nm ds ∈ jTA Ts ∨ ∃ host, Jvm.Cond.fieldLinkNest own i ref nm ds host ∈ jNW Ts := by
  unfold jlk at h
  split at h
  next hw =>
    simp only [Bool.and_eq_true, decide_eq_true_eq] at h
    obtain ⟨⟨⟨⟨rfl, rfl⟩, rfl⟩, rfl⟩, rfl⟩ := h
    exact Or.inl (jTA_in hw rfl)
  next hw =>
    simp only [Bool.and_eq_true, decide_eq_true_eq] at h
    obtain ⟨⟨⟨⟨rfl, rfl⟩, rfl⟩, rfl⟩, rfl⟩ := h
    exact Or.inr ⟨_, List.mem_filter.mpr ⟨List.mem_of_getElem? hw, rfl⟩⟩
  next => cases h
noncomputable def jokF (own : String) (Ts : List Jvm.Cond) (cl : List vw_C) (i : Nat) (py : jP) : Bool := match cl[py.1]? with
  | some q => decide (py.2.1 < q.2.2) && jlk Ts py.2.2.1 own i (q.2.1 py.2.1).1 (q.2.1 py.2.1).2.1 (q.2.1 py.2.1).2.2.1
  | none => false
noncomputable def jokW (own : String) (Ts : List Jvm.Cond) (cl : List vw_C) (ini : Bool) (i : Nat) (py : jP) : Bool := match cl[py.1]? with
  | some q => (!(q.2.1 py.2.1).2.2.2 || (ini && decide ((q.2.1 py.2.1).1 = own) && decide (Ts[py.2.2.1]? = some (Jvm.Cond.fieldLink own i (q.2.1 py.2.1).1 (q.2.1 py.2.1).2.1 (q.2.1 py.2.1).2.2.1)))) && decide (jkd (parseFieldDescriptor (q.2.1 py.2.1).2.2.1) = py.2.2.2.1.toNatClampNeg)
  | none => false
noncomputable def jokS (own : String) (Ts : List Jvm.Cond) (tb : jTb) (i : Nat) (py : jP) : Bool := match tb py.1 with
  | some q => decide (Ts[py.2.2.1]? = some (Jvm.Cond.fieldLink own i q.1 q.2.1 q.2.2.1))
  | none => false
noncomputable def jok1 (own : String) (Ts : List Jvm.Cond) (cl : List vw_C) (tb : jTb) (nL : Nat) (ini : Bool) (pc : Nat) (I : Instr) (ln : Nat) (py : jP) : Bool := match I with
  | .iconst i => decide (ln = 1) && decide (Int32.ofInt i = py.2.2.2.1)
  | .bipush i => decide (ln = 2) && decide ((Int8.ofInt i).toInt32 = py.2.2.2.1)
  | .sipush i => decide (ln = 3) && decide ((Int16.ofInt i).toInt32 = py.2.2.2.1)
  | .ldc i => decide (ln = 2) && decide (Ts[py.2.2.1]? = some (Jvm.Cond.constant own i py.2.2.2.1))
  | .lconst i => decide (ln = 1) && decide (Int64.ofNat (i : Nat) = py.2.2.2.2)
  | .ldc2_w i => decide (ln = 3) && decide (Ts[py.2.2.1]? = some (Jvm.Cond.constantLong own i py.2.2.2.2))
  | .iload_n i => decide (ln = 1) && decide (i.val = py.1)
  | .lload_n i => decide (ln = 1) && decide (i.val = py.1)
  | .aload_n i => decide (ln = 1) && decide (i.val = py.1)
  | .iload _ => decide (ln = 2)
  | .lload _ => decide (ln = 2)
  | .aload _ => decide (ln = 2)
  | .istore i => decide (ln = 2) && decide (i < nL)
  | .astore i => decide (ln = 2) && decide (i < nL)
  | .lstore i => decide (ln = 2) && decide (i + 1 < nL)
  | .istore_n i => decide (ln = 1) && decide (i.val < nL) && decide (i.val = py.1)
  | .astore_n i => decide (ln = 1) && decide (i.val < nL) && decide (i.val = py.1)
  | .lstore_n i => decide (ln = 1) && decide (i.val + 1 < nL) && decide (i.val = py.1)
  | .iinc i z => decide (ln = 3) && decide (i < nL) && decide (Int32.ofInt z = py.2.2.2.1)
  | .ifCond _ z => decide (ln = 3) && decide ((pc : Int) + z = (py.1 : Int))
  | .if_icmp _ z => decide (ln = 3) && decide ((pc : Int) + z = (py.1 : Int))
  | .ifnull z => decide (ln = 3) && decide ((pc : Int) + z = (py.1 : Int))
  | .ifnonnull z => decide (ln = 3) && decide ((pc : Int) + z = (py.1 : Int))
  | .goto z => decide (ln = 3) && decide ((pc : Int) + z = (py.1 : Int))
  | .getfield i => decide (ln = 3) && jokF own Ts cl i py
  | .putfield i => decide (ln = 3) && jokF own Ts cl i py && jokW own Ts cl ini i py
  | .getstatic i => decide (ln = 3) && jokS own Ts tb i py
  | .invokevirtual _ => true
  | .invokespecial _ => true
  | .invokestatic _ => true
  | .new _ => true
  | .newarray _ => true
  | .tableswitch _ _ _ _ => true
  | .lookupswitch _ _ => true
  | .ldc_w _ => true
  | .checkcast _ => true
  | .if_acmp _ _ => true
  | _ => decide (ln = 1)
noncomputable def jok (own : String) (Ts : List Jvm.Cond) (cl : List vw_C) (tb : jTb) (nL : Nat) (ini : Bool) (cc : ByteArray) (pc : Nat) (x : jI) : Bool := decide (decode cc pc = .ok (x.1, x.2.1)) && jok1 own Ts cl tb nL ini pc x.1 x.2.1 x.2.2
noncomputable def jokL (own : String) (Ts : List Jvm.Cond) (cl : List vw_C) (tb : jTb) (nL : Nat) (ini : Bool) (cc : ByteArray) : Nat → List jI → Bool
  | _, [] => true
  | pc, x :: r => jok own Ts cl tb nL ini cc pc x && jokL own Ts cl tb nL ini cc (pc + x.2.1) r
theorem jokL_app {own : String} {Ts : List Jvm.Cond} {cl : List vw_C} {tb : jTb} {nL : Nat} {ini : Bool} {cc : ByteArray} : ∀ (a b : List jI) (pc : Nat), jokL own Ts cl tb nL ini cc pc (a ++ b) = true → jokL own Ts cl tb nL ini cc pc a = true ∧ jokL own Ts cl tb nL ini cc (pc + (a.map (fun x => x.2.1)).sum) b = true
  | [], b, pc, h => ⟨rfl, by simpa using h⟩
  | x :: a, b, pc, h => by
    rw [List.cons_append] at h
    unfold jokL at h
    rw [Bool.and_eq_true] at h
    have h2 := jokL_app a b (pc + x.2.1) h.2
    refine ⟨?_, ?_⟩
    · unfold jokL
      rw [Bool.and_eq_true]
      exact ⟨h.1, h2.1⟩
    · rw [List.map_cons, List.sum_cons, ← Nat.add_assoc]
      exact h2.2
/-- a part of a checked row is checked -/
theorem jok_sub {own : String} {Ts : List Jvm.Cond} {cl : List vw_C} {tb : jTb} {nL : Nat} {ini : Bool} {cc : ByteArray} {pc : Nat} {is : List jI} (h : jokL own Ts cl tb nL ini cc pc is = true) (i j : Nat) {pc' : Nat} {mid : List jI} (hm : (is.drop i).take j = mid) (hp : pc + ((is.take i).map (fun x => x.2.1)).sum = pc') : jokL own Ts cl tb nL ini cc pc' mid = true := by
  subst hm; subst hp
  rw [← List.take_append_drop i is] at h
  have h2 := (jokL_app _ _ _ h).2
  rw [← List.take_append_drop j (is.drop i)] at h2
  exact (jokL_app _ _ _ h2).1
/-! the judgement -/
abbrev jM : Type := Program × Launch × Env × Room × State × MethodId × Array Value × List Frame × Method × Code
noncomputable def jX (E : jE) (own : String) (Ts : List Jvm.Cond) (cl : List vw_C) (tb : jTb) (nL : Nat) (ini : Bool) (cc : ByteArray) (M : jM) : Prop :=
  M.1.tables.exec = Jvm.exec ∧ M.2.2.2.2.2.2.2.2.2.code = cc ∧ M.2.2.2.2.2.2.2.2.2.maxLocals = nL ∧ M.2.2.2.2.1.vm.findClass own = some M.2.2.2.2.2.1.cls ∧ (∀ w ∈ jTA Ts, w.before M.2.2.2.2.2.2.1 M.2.2.2.2.1 = true) ∧ jK E cl tb Ts M.2.2.2.2.1 ∧ M.2.2.2.2.2.2.2.2.1.locks = false ∧ (ini = true → M.2.2.2.2.2.2.2.2.1.name = "<init>")
noncomputable def jJ (E : jE) (cl : List vw_C) (nL : Nat) (M : jM) (Q : State → Prop) (n cells slots : Nat) : jN := fun pc lv st σ => ∀ (H : Heap) (locs : List Loc) (ls : Array Slot), jW E cl σ n H → va_S (jA E) M.2.2.2.2.1.heap H locs → jlv E ls nL lv →
  W M.1 M.2.1 M.2.2.1 M.2.2.2.1 M.2.2.2.2.1 M.2.2.2.2.2.1 M.2.2.2.2.2.2.1 M.2.2.2.2.2.2.2.1 M.2.2.2.2.2.2.2.2.1 M.2.2.2.2.2.2.2.2.2 H locs cells slots Q (F0 M.2.2.2.2.2.1 pc ls (st.map (jc E)))
/-- what the tables give, once for all methods -/
noncomputable def jCl (Ts : List Jvm.Cond) (cl : List vw_C) : Prop := ∀ (ci : Nat) (q : vw_C), cl[ci]? = some q → (∀ w ∈ u_ws q.1 q.2.1 q.2.2, w ∈ jTA Ts) ∧ (∃ ty : Nat → FieldType, ∀ k, k < q.2.2 → parseFieldDescriptor (q.2.1 k).2.2.1 = some (ty k)) ∧ ∀ a, a < q.2.2 → ∀ b, b < q.2.2 → a ≠ b → (q.2.1 a).2.1 ≠ (q.2.1 b).2.1
theorem jc_cat (E : jE) (v : jv) : (jc E v).category = jcat v := by
  rcases v with x | x | _ | k | j <;> rfl
theorem jpr_mem {E : jE} : ∀ (lv : List (Option jv)) (i : Nat) (q : Nat × Value), q ∈ jpr E i lv → ∃ (j : Nat) (v : jv), lv[j]? = some (some v) ∧ q = (i + j, jc E v)
  | [], _, _, h => by cases h
  | none :: r, i, q, h => by
    obtain ⟨j, v, h1, h2⟩ := jpr_mem r (i + 1) q h
    exact ⟨j + 1, v, by simpa using h1, by rw [h2]; congr 1; omega⟩
  | some v :: r, i, q, h => by
    rcases List.mem_cons.mp h with h | h
    · exact ⟨0, v, rfl, h⟩
    · obtain ⟨j, v, h1, h2⟩ := jpr_mem r (i + 1) q h
      exact ⟨j + 1, v, by simpa using h1, by rw [h2]; congr 1; omega⟩
theorem jpr_in {E : jE} : ∀ (lv : List (Option jv)) (i j : Nat) (v : jv), lv[j]? = some (some v) → (i + j, jc E v) ∈ jpr E i lv
  | [], _, _, _, h => by simp at h
  | x :: r, i, 0, v, h => by
    have hx : x = some v := by simpa using h
    subst hx
    exact List.mem_cons_self
  | x :: r, i, j + 1, v, h => by
    have h1 := jpr_in (E := E) r (i + 1) j v (by simpa using h)
    rw [show i + 1 + j = i + (j + 1) by omega] at h1
    cases x with
    | none => exact h1
    | some y => exact List.mem_cons_of_mem _ h1
theorem jlv_has {E : jE} {ls : Array Slot} {nL : Nat} {lv : List (Option jv)} (h : jlv E ls nL lv) : lv_has ls nL (jpr E 0 lv) := by
  refine ⟨h.1, h.2.1, fun q hq => ?_⟩
  obtain ⟨j, v, h1, h2⟩ := jpr_mem lv 0 q hq
  rw [h2]
  show ls[0 + j]? = _
  rw [Nat.zero_add]
  exact h.2.2 j v h1
theorem jkill_at {lv : List (Option jv)} {i j : Nat} {v : jv} (h : (jkill lv i)[j]? = some (some v)) : lv[j]? = some (some v) ∧ ¬ (j + 1 = i ∧ jcat v = 2) := by
  cases i with
  | zero => exact ⟨h, fun q => by omega⟩
  | succ k =>
    dsimp only [jkill] at h
    split at h
    next x hx =>
      by_cases hjk : j = k
      · subst hjk
        rw [List.getElem?_set_self (by exact (List.getElem?_eq_some_iff.mp hx).1)] at h
        cases h
      · rw [List.getElem?_set_ne (fun q => hjk q.symm)] at h
        exact ⟨h, fun q => hjk (by omega)⟩
    next hx =>
      refine ⟨h, fun q => ?_⟩
      have hjk : j = k := by omega
      subst hjk
      rcases v with x | x | a
      · cases q.2
      · exact hx x h
      · cases q.2
theorem jlv_st1 {E : jE} {ls : Array Slot} {nL : Nat} {lv : List (Option jv)} (h : jlv E ls nL lv) {i : Nat} (hi : i < nL) {v : jv} (hc : jcat v = 1) : ∃ ls', storeLocals ls i (jc E v) = some ls' ∧ jlv E ls' nL (jset1 lv i v) := by
  obtain ⟨ls', h1, h2⟩ := lv_store1 (i := i) (v := jc E v) (jlv_has h) hi (by rw [jc_cat]; exact hc)
  refine ⟨ls', h1, h2.1, h2.2.1, fun j w hj => ?_⟩
  by_cases hji : j = i
  · subst hji
    unfold jset1 at hj
    have hl : j < (jkill lv j).length := by
      have := (List.getElem?_eq_some_iff.mp hj).1
      simpa using this
    rw [List.getElem?_set_self hl] at hj
    cases hj
    exact h2.2.2 (j, jc E v) List.mem_cons_self
  · unfold jset1 at hj
    rw [List.getElem?_set_ne (fun q => hji q.symm)] at hj
    obtain ⟨h3, h4⟩ := jkill_at hj
    refine h2.2.2 (j, jc E w) (List.mem_cons_of_mem _ (List.mem_filter.mpr ⟨?_, ?_⟩))
    · have := jpr_in (E := E) lv 0 j w h3
      rwa [Nat.zero_add] at this
    · simp only [jc_cat]
      simp [hji]
      omega
theorem jlv_st2 {E : jE} {ls : Array Slot} {nL : Nat} {lv : List (Option jv)} (h : jlv E ls nL lv) {i : Nat} (hi : i + 1 < nL) {v : jv} (hc : jcat v = 2) : ∃ ls', storeLocals ls i (jc E v) = some ls' ∧ jlv E ls' nL (jset2 lv i v) := by
  obtain ⟨ls', h1, h2⟩ := lv_store2 (i := i) (v := jc E v) (jlv_has h) hi (by rw [jc_cat]; exact hc)
  refine ⟨ls', h1, h2.1, h2.2.1, fun j w hj => ?_⟩
  unfold jset2 at hj
  by_cases hj1 : j = i + 1
  · subst hj1
    have hl : i + 1 < ((jkill lv i).set i (some v)).length := by
      have := (List.getElem?_eq_some_iff.mp hj).1
      simpa using this
    rw [List.getElem?_set_self hl] at hj
    cases hj
  rw [List.getElem?_set_ne (fun q => hj1 q.symm)] at hj
  by_cases hji : j = i
  · subst hji
    have hl : j < (jkill lv j).length := by
      have := (List.getElem?_eq_some_iff.mp hj).1
      simpa using this
    rw [List.getElem?_set_self hl] at hj
    cases hj
    exact h2.2.2 (j, jc E v) List.mem_cons_self
  · rw [List.getElem?_set_ne (fun q => hji q.symm)] at hj
    obtain ⟨h3, h4⟩ := jkill_at hj
    refine h2.2.2 (j, jc E w) (List.mem_cons_of_mem _ (List.mem_filter.mpr ⟨?_, ?_⟩))
    · have := jpr_in (E := E) lv 0 j w h3
      rwa [Nat.zero_add] at this
    · simp only [jc_cat]
      simp [hji, hj1]
      omega
theorem jW_set {E : jE} {cl : List vw_C} {σ : Nat → jcell} {n a : Nat} {x : jcell} {H H1 : Heap} (h : jW E cl σ n H) (z : H1.size = H.size) (oq : ∀ q : Nat, q ≠ E.2.2.2 + a → H1[q]? = H[q]?) (he : va_at E.1 cl (E.2.2.2 + a, je E x) H1) : jW E cl (jup σ a x) n H1 := by
  refine ⟨z.trans h.1, fun k hk hkk => ?_⟩
  by_cases hka : k = a
  · subst hka
    rw [jup_s]
    exact he
  · rw [jup_n hka] at hkk ⊢
    exact (h.2 k hk hkk).kept (oq _ (by show E.2.2.2 + k ≠ _; omega))
theorem jS_put {E : jE} {H0 H H1 : Heap} {locs : List Loc} {a k : Nat} (h : va_S (jA E) H0 H locs) (z : H1.size = H.size) (oq : ∀ q : Nat, q ≠ E.2.2.2 + a → H1[q]? = H[q]?) : va_S (jA E) H0 H1 (locs ++ [⟨E.2.2.2 + a, k⟩]) := h.put z oq (Nat.le_add_right _ _)
theorem jW_one {E : jE} {cl : List vw_C} {σ : Nat → jcell} {n a : Nat} {H : Heap} (h : jW E cl σ n H) (ha : a < n) (hq : jkn (σ a)) : va_P E.1 cl [(E.2.2.2 + a, je E (σ a))] H := by
  intro k q hk
  cases k with
  | zero => cases hk; exact h.2 a ha hq
  | succ k => simp at hk
theorem jty_in {E : jE} {t : FieldType} (h : t ∈ jtys) : ∃ t0 : Nat, (jtyl E)[t0]? = some (E.2.1 t, t) := by
  obtain ⟨i, hi⟩ := List.getElem?_of_mem h
  exact ⟨i, by simp [jtyl, hi]⟩
theorem jfit_n {kd : Nat} {v : jv} {E : jE} {t : Option FieldType} (h : jfit kd v) (hk : jkd t = kd) : ∃ ty, t = some ty ∧ narrow ty (jc E v) = jc E v ∧ fits ty (jc E v) = true := by
  unfold jfit at h
  split at h
  · cases t with
    | none => cases hk
    | some ty => cases ty <;> first | (cases hk; done) | exact ⟨_, rfl, rfl, rfl⟩
  · cases t with
    | none => cases hk
    | some ty => cases ty <;> first | (cases hk; done) | (rcases h with h | h <;> subst h <;> exact ⟨_, rfl, rfl, rfl⟩)
  · cases t with
    | none => cases hk
    | some ty => cases ty <;> first | (cases hk; done) | exact ⟨_, rfl, rfl, rfl⟩
  · next a =>
    cases t with
    | none => cases hk
    | some ty => cases ty <;> first | (cases hk; done) | (rcases a with _ | k | k <;> exact ⟨_, rfl, rfl, rfl⟩)
  · exact h.elim
section JST
variable {E : jE} {own : String} {Ts : List Jvm.Cond} {cl : List vw_C} {tb : jTb} {nL : Nat} {ini : Bool} {cc : ByteArray} {M : jM} {Q : State → Prop} {n cells slots : Nat}
theorem jk_iadd (X : jX E own Ts cl tb nL ini cc M) {pc : Nat} (hd : decode cc pc = .ok (.iadd, 1)) {lv : List (Option jv)} {r : List jv} {σ : Nat → jcell} {x y : Int32} (k : jJ E cl nL M Q n cells slots (pc + 1) lv (.inl (x + y) :: r) σ) : jJ E cl nL M Q n cells slots pc lv (.inl y :: .inl x :: r) σ := by
  obtain ⟨hx, hb, -⟩ := X
  exact fun H locs ls hW hS hL => lv_iadd (x := x) (y := y) hx hb hd (k H locs ls hW hS hL)
theorem jk_isub (X : jX E own Ts cl tb nL ini cc M) {pc : Nat} (hd : decode cc pc = .ok (.isub, 1)) {lv : List (Option jv)} {r : List jv} {σ : Nat → jcell} {x y : Int32} (k : jJ E cl nL M Q n cells slots (pc + 1) lv (.inl (x - y) :: r) σ) : jJ E cl nL M Q n cells slots pc lv (.inl y :: .inl x :: r) σ := by
  obtain ⟨hx, hb, -⟩ := X
  exact fun H locs ls hW hS hL => lv_isub (x := x) (y := y) hx hb hd (k H locs ls hW hS hL)
theorem jk_imul (X : jX E own Ts cl tb nL ini cc M) {pc : Nat} (hd : decode cc pc = .ok (.imul, 1)) {lv : List (Option jv)} {r : List jv} {σ : Nat → jcell} {x y : Int32} (k : jJ E cl nL M Q n cells slots (pc + 1) lv (.inl (x * y) :: r) σ) : jJ E cl nL M Q n cells slots pc lv (.inl y :: .inl x :: r) σ := by
  obtain ⟨hx, hb, -⟩ := X
  exact fun H locs ls hW hS hL => lv_imul (x := x) (y := y) hx hb hd (k H locs ls hW hS hL)
theorem jk_iand (X : jX E own Ts cl tb nL ini cc M) {pc : Nat} (hd : decode cc pc = .ok (.iand, 1)) {lv : List (Option jv)} {r : List jv} {σ : Nat → jcell} {x y : Int32} (k : jJ E cl nL M Q n cells slots (pc + 1) lv (.inl (x &&& y) :: r) σ) : jJ E cl nL M Q n cells slots pc lv (.inl y :: .inl x :: r) σ := by
  obtain ⟨hx, hb, -⟩ := X
  exact fun H locs ls hW hS hL => lv_iand (x := x) (y := y) hx hb hd (k H locs ls hW hS hL)
theorem jk_ior (X : jX E own Ts cl tb nL ini cc M) {pc : Nat} (hd : decode cc pc = .ok (.ior, 1)) {lv : List (Option jv)} {r : List jv} {σ : Nat → jcell} {x y : Int32} (k : jJ E cl nL M Q n cells slots (pc + 1) lv (.inl (x ||| y) :: r) σ) : jJ E cl nL M Q n cells slots pc lv (.inl y :: .inl x :: r) σ := by
  obtain ⟨hx, hb, -⟩ := X
  exact fun H locs ls hW hS hL => lv_ior (x := x) (y := y) hx hb hd (k H locs ls hW hS hL)
theorem jk_ixor (X : jX E own Ts cl tb nL ini cc M) {pc : Nat} (hd : decode cc pc = .ok (.ixor, 1)) {lv : List (Option jv)} {r : List jv} {σ : Nat → jcell} {x y : Int32} (k : jJ E cl nL M Q n cells slots (pc + 1) lv (.inl (x ^^^ y) :: r) σ) : jJ E cl nL M Q n cells slots pc lv (.inl y :: .inl x :: r) σ := by
  obtain ⟨hx, hb, -⟩ := X
  exact fun H locs ls hW hS hL => lv_ixor (x := x) (y := y) hx hb hd (k H locs ls hW hS hL)
theorem jk_ishl (X : jX E own Ts cl tb nL ini cc M) {pc : Nat} (hd : decode cc pc = .ok (.ishl, 1)) {lv : List (Option jv)} {r : List jv} {σ : Nat → jcell} {x y : Int32} (k : jJ E cl nL M Q n cells slots (pc + 1) lv (.inl (x <<< (y &&& 31)) :: r) σ) : jJ E cl nL M Q n cells slots pc lv (.inl y :: .inl x :: r) σ := by
  obtain ⟨hx, hb, -⟩ := X
  exact fun H locs ls hW hS hL => lv_ishl (x := x) (y := y) hx hb hd (k H locs ls hW hS hL)
theorem jk_ishr (X : jX E own Ts cl tb nL ini cc M) {pc : Nat} (hd : decode cc pc = .ok (.ishr, 1)) {lv : List (Option jv)} {r : List jv} {σ : Nat → jcell} {x y : Int32} (k : jJ E cl nL M Q n cells slots (pc + 1) lv (.inl (x >>> (y &&& 31)) :: r) σ) : jJ E cl nL M Q n cells slots pc lv (.inl y :: .inl x :: r) σ := by
  obtain ⟨hx, hb, -⟩ := X
  exact fun H locs ls hW hS hL => lv_ishr (x := x) (y := y) hx hb hd (k H locs ls hW hS hL)
theorem jk_iushr (X : jX E own Ts cl tb nL ini cc M) {pc : Nat} (hd : decode cc pc = .ok (.iushr, 1)) {lv : List (Option jv)} {r : List jv} {σ : Nat → jcell} {x y : Int32} (k : jJ E cl nL M Q n cells slots (pc + 1) lv (.inl (x.toUInt32 >>> (y.toUInt32 &&& Int32.toUInt32 31)).toInt32 :: r) σ) : jJ E cl nL M Q n cells slots pc lv (.inl y :: .inl x :: r) σ := by
  obtain ⟨hx, hb, -⟩ := X
  exact fun H locs ls hW hS hL => lv_iushr (x := x) (y := y) hx hb hd rfl (k H locs ls hW hS hL)
theorem jk_idiv (X : jX E own Ts cl tb nL ini cc M) {pc : Nat} (hd : decode cc pc = .ok (.idiv, 1)) {lv : List (Option jv)} {r : List jv} {σ : Nat → jcell} {x y : Int32} (hne : ¬ y = 0) (k : jJ E cl nL M Q n cells slots (pc + 1) lv (.inl (x / y) :: r) σ) : jJ E cl nL M Q n cells slots pc lv (.inl y :: .inl x :: r) σ := by
  obtain ⟨hx, hb, -⟩ := X
  exact fun H locs ls hW hS hL => lv_idiv (x := x) (y := y) hx hb hd hne (k H locs ls hW hS hL)
theorem jk_irem (X : jX E own Ts cl tb nL ini cc M) {pc : Nat} (hd : decode cc pc = .ok (.irem, 1)) {lv : List (Option jv)} {r : List jv} {σ : Nat → jcell} {x y : Int32} (hne : ¬ y = 0) (k : jJ E cl nL M Q n cells slots (pc + 1) lv (.inl (x - x / y * y) :: r) σ) : jJ E cl nL M Q n cells slots pc lv (.inl y :: .inl x :: r) σ := by
  obtain ⟨hx, hb, -⟩ := X
  exact fun H locs ls hW hS hL => lv_irem (x := x) (y := y) hx hb hd hne (k H locs ls hW hS hL)
theorem jk_ineg (X : jX E own Ts cl tb nL ini cc M) {pc : Nat} (hd : decode cc pc = .ok (.ineg, 1)) {lv : List (Option jv)} {r : List jv} {σ : Nat → jcell} {x : Int32} (k : jJ E cl nL M Q n cells slots (pc + 1) lv (.inl (-x) :: r) σ) : jJ E cl nL M Q n cells slots pc lv (.inl x :: r) σ := by
  obtain ⟨hx, hb, -⟩ := X
  exact fun H locs ls hW hS hL => lv_ineg (x := x) hx hb hd (k H locs ls hW hS hL)
theorem jk_ladd (X : jX E own Ts cl tb nL ini cc M) {pc : Nat} (hd : decode cc pc = .ok (.ladd, 1)) {lv : List (Option jv)} {r : List jv} {σ : Nat → jcell} {x y : Int64} (k : jJ E cl nL M Q n cells slots (pc + 1) lv (.inr (.inl (x + y)) :: r) σ) : jJ E cl nL M Q n cells slots pc lv (.inr (.inl y) :: .inr (.inl x) :: r) σ := by
  obtain ⟨hx, hb, -⟩ := X
  exact fun H locs ls hW hS hL => lv_ladd (x := x) (y := y) hx hb hd (k H locs ls hW hS hL)
theorem jk_lsub (X : jX E own Ts cl tb nL ini cc M) {pc : Nat} (hd : decode cc pc = .ok (.lsub, 1)) {lv : List (Option jv)} {r : List jv} {σ : Nat → jcell} {x y : Int64} (k : jJ E cl nL M Q n cells slots (pc + 1) lv (.inr (.inl (x - y)) :: r) σ) : jJ E cl nL M Q n cells slots pc lv (.inr (.inl y) :: .inr (.inl x) :: r) σ := by
  obtain ⟨hx, hb, -⟩ := X
  exact fun H locs ls hW hS hL => lv_lsub (x := x) (y := y) hx hb hd (k H locs ls hW hS hL)
theorem jk_lmul (X : jX E own Ts cl tb nL ini cc M) {pc : Nat} (hd : decode cc pc = .ok (.lmul, 1)) {lv : List (Option jv)} {r : List jv} {σ : Nat → jcell} {x y : Int64} (k : jJ E cl nL M Q n cells slots (pc + 1) lv (.inr (.inl (x * y)) :: r) σ) : jJ E cl nL M Q n cells slots pc lv (.inr (.inl y) :: .inr (.inl x) :: r) σ := by
  obtain ⟨hx, hb, -⟩ := X
  exact fun H locs ls hW hS hL => lv_lmul (x := x) (y := y) hx hb hd (k H locs ls hW hS hL)
theorem jk_land (X : jX E own Ts cl tb nL ini cc M) {pc : Nat} (hd : decode cc pc = .ok (.land, 1)) {lv : List (Option jv)} {r : List jv} {σ : Nat → jcell} {x y : Int64} (k : jJ E cl nL M Q n cells slots (pc + 1) lv (.inr (.inl (x &&& y)) :: r) σ) : jJ E cl nL M Q n cells slots pc lv (.inr (.inl y) :: .inr (.inl x) :: r) σ := by
  obtain ⟨hx, hb, -⟩ := X
  exact fun H locs ls hW hS hL => lv_land (x := x) (y := y) hx hb hd (k H locs ls hW hS hL)
theorem jk_lor (X : jX E own Ts cl tb nL ini cc M) {pc : Nat} (hd : decode cc pc = .ok (.lor, 1)) {lv : List (Option jv)} {r : List jv} {σ : Nat → jcell} {x y : Int64} (k : jJ E cl nL M Q n cells slots (pc + 1) lv (.inr (.inl (x ||| y)) :: r) σ) : jJ E cl nL M Q n cells slots pc lv (.inr (.inl y) :: .inr (.inl x) :: r) σ := by
  obtain ⟨hx, hb, -⟩ := X
  exact fun H locs ls hW hS hL => lv_lor (x := x) (y := y) hx hb hd (k H locs ls hW hS hL)
theorem jk_lxor (X : jX E own Ts cl tb nL ini cc M) {pc : Nat} (hd : decode cc pc = .ok (.lxor, 1)) {lv : List (Option jv)} {r : List jv} {σ : Nat → jcell} {x y : Int64} (k : jJ E cl nL M Q n cells slots (pc + 1) lv (.inr (.inl (x ^^^ y)) :: r) σ) : jJ E cl nL M Q n cells slots pc lv (.inr (.inl y) :: .inr (.inl x) :: r) σ := by
  obtain ⟨hx, hb, -⟩ := X
  exact fun H locs ls hW hS hL => lv_lxor (x := x) (y := y) hx hb hd (k H locs ls hW hS hL)
theorem jk_ldiv (X : jX E own Ts cl tb nL ini cc M) {pc : Nat} (hd : decode cc pc = .ok (.ldiv, 1)) {lv : List (Option jv)} {r : List jv} {σ : Nat → jcell} {x y : Int64} (hne : ¬ y = 0) (k : jJ E cl nL M Q n cells slots (pc + 1) lv (.inr (.inl (x / y)) :: r) σ) : jJ E cl nL M Q n cells slots pc lv (.inr (.inl y) :: .inr (.inl x) :: r) σ := by
  obtain ⟨hx, hb, -⟩ := X
  exact fun H locs ls hW hS hL => lv_ldiv (x := x) (y := y) hx hb hd hne (k H locs ls hW hS hL)
theorem jk_lrem (X : jX E own Ts cl tb nL ini cc M) {pc : Nat} (hd : decode cc pc = .ok (.lrem, 1)) {lv : List (Option jv)} {r : List jv} {σ : Nat → jcell} {x y : Int64} (hne : ¬ y = 0) (k : jJ E cl nL M Q n cells slots (pc + 1) lv (.inr (.inl (x - x / y * y)) :: r) σ) : jJ E cl nL M Q n cells slots pc lv (.inr (.inl y) :: .inr (.inl x) :: r) σ := by
  obtain ⟨hx, hb, -⟩ := X
  exact fun H locs ls hW hS hL => lv_lrem (x := x) (y := y) hx hb hd hne (k H locs ls hW hS hL)
theorem jk_lneg (X : jX E own Ts cl tb nL ini cc M) {pc : Nat} (hd : decode cc pc = .ok (.lneg, 1)) {lv : List (Option jv)} {r : List jv} {σ : Nat → jcell} {x : Int64} (k : jJ E cl nL M Q n cells slots (pc + 1) lv (.inr (.inl (-x)) :: r) σ) : jJ E cl nL M Q n cells slots pc lv (.inr (.inl x) :: r) σ := by
  obtain ⟨hx, hb, -⟩ := X
  exact fun H locs ls hW hS hL => lv_lneg (x := x) hx hb hd (k H locs ls hW hS hL)
theorem jk_lshl (X : jX E own Ts cl tb nL ini cc M) {pc : Nat} (hd : decode cc pc = .ok (.lshl, 1)) {lv : List (Option jv)} {r : List jv} {σ : Nat → jcell} {x : Int64} {y : Int32} (k : jJ E cl nL M Q n cells slots (pc + 1) lv (.inr (.inl (x <<< (y.toInt64 &&& 63))) :: r) σ) : jJ E cl nL M Q n cells slots pc lv (.inl y :: .inr (.inl x) :: r) σ := by
  obtain ⟨hx, hb, -⟩ := X
  exact fun H locs ls hW hS hL => lv_lshl (x := x) (y := y) hx hb hd rfl (k H locs ls hW hS hL)
theorem jk_lshr (X : jX E own Ts cl tb nL ini cc M) {pc : Nat} (hd : decode cc pc = .ok (.lshr, 1)) {lv : List (Option jv)} {r : List jv} {σ : Nat → jcell} {x : Int64} {y : Int32} (k : jJ E cl nL M Q n cells slots (pc + 1) lv (.inr (.inl (x >>> (y.toInt64 &&& 63))) :: r) σ) : jJ E cl nL M Q n cells slots pc lv (.inl y :: .inr (.inl x) :: r) σ := by
  obtain ⟨hx, hb, -⟩ := X
  exact fun H locs ls hW hS hL => lv_lshr (x := x) (y := y) hx hb hd rfl (k H locs ls hW hS hL)
theorem jk_lushr (X : jX E own Ts cl tb nL ini cc M) {pc : Nat} (hd : decode cc pc = .ok (.lushr, 1)) {lv : List (Option jv)} {r : List jv} {σ : Nat → jcell} {x : Int64} {y : Int32} (k : jJ E cl nL M Q n cells slots (pc + 1) lv (.inr (.inl (x.toUInt64 >>> (y.toInt64.toUInt64 &&& Int64.toUInt64 63)).toInt64) :: r) σ) : jJ E cl nL M Q n cells slots pc lv (.inl y :: .inr (.inl x) :: r) σ := by
  obtain ⟨hx, hb, -⟩ := X
  exact fun H locs ls hW hS hL => lv_lushr (x := x) (y := y) hx hb hd rfl (k H locs ls hW hS hL)
theorem jk_lcmp (X : jX E own Ts cl tb nL ini cc M) {pc : Nat} (hd : decode cc pc = .ok (.lcmp, 1)) {lv : List (Option jv)} {r : List jv} {σ : Nat → jcell} {x y : Int64} (k : jJ E cl nL M Q n cells slots (pc + 1) lv (.inl (lg_cmp x y) :: r) σ) : jJ E cl nL M Q n cells slots pc lv (.inr (.inl y) :: .inr (.inl x) :: r) σ := by
  obtain ⟨hx, hb, -⟩ := X
  exact fun H locs ls hW hS hL => W.lcmp (x := x) (y := y) hx hb hd (k H locs ls hW hS hL)
theorem jk_i2l (X : jX E own Ts cl tb nL ini cc M) {pc : Nat} (hd : decode cc pc = .ok (.i2l, 1)) {lv : List (Option jv)} {r : List jv} {σ : Nat → jcell} {x : Int32} (k : jJ E cl nL M Q n cells slots (pc + 1) lv (.inr (.inl x.toInt64) :: r) σ) : jJ E cl nL M Q n cells slots pc lv (.inl x :: r) σ := by
  obtain ⟨hx, hb, -⟩ := X
  exact fun H locs ls hW hS hL => lv_i2l (x := x) hx hb hd rfl (k H locs ls hW hS hL)
theorem jk_l2i (X : jX E own Ts cl tb nL ini cc M) {pc : Nat} (hd : decode cc pc = .ok (.l2i, 1)) {lv : List (Option jv)} {r : List jv} {σ : Nat → jcell} {x : Int64} (k : jJ E cl nL M Q n cells slots (pc + 1) lv (.inl x.toInt32 :: r) σ) : jJ E cl nL M Q n cells slots pc lv (.inr (.inl x) :: r) σ := by
  obtain ⟨hx, hb, -⟩ := X
  exact fun H locs ls hW hS hL => lv_l2i (x := x) hx hb hd rfl (k H locs ls hW hS hL)
theorem jk_i2b (X : jX E own Ts cl tb nL ini cc M) {pc : Nat} (hd : decode cc pc = .ok (.i2b, 1)) {lv : List (Option jv)} {r : List jv} {σ : Nat → jcell} {x : Int32} (k : jJ E cl nL M Q n cells slots (pc + 1) lv (.inl x.toInt8.toInt32 :: r) σ) : jJ E cl nL M Q n cells slots pc lv (.inl x :: r) σ := by
  obtain ⟨hx, hb, -⟩ := X
  exact fun H locs ls hW hS hL => lv_i2b (x := x) hx hb hd rfl (k H locs ls hW hS hL)
theorem jk_i2c (X : jX E own Ts cl tb nL ini cc M) {pc : Nat} (hd : decode cc pc = .ok (.i2c, 1)) {lv : List (Option jv)} {r : List jv} {σ : Nat → jcell} {x : Int32} (k : jJ E cl nL M Q n cells slots (pc + 1) lv (.inl (x.toUInt32 % 65536).toInt32 :: r) σ) : jJ E cl nL M Q n cells slots pc lv (.inl x :: r) σ := by
  obtain ⟨hx, hb, -⟩ := X
  exact fun H locs ls hW hS hL => lv_i2c (x := x) hx hb hd rfl (k H locs ls hW hS hL)
theorem jk_anull (X : jX E own Ts cl tb nL ini cc M) {pc : Nat} (hd : decode cc pc = .ok (.aconst_null, 1)) {lv : List (Option jv)} {r : List jv} {σ : Nat → jcell} (k : jJ E cl nL M Q n cells slots (pc + 1) lv (.inr (.inr none) :: r) σ) : jJ E cl nL M Q n cells slots pc lv (r) σ := by
  obtain ⟨hx, hb, -⟩ := X
  exact fun H locs ls hW hS hL => lv_null hx hb hd (k H locs ls hW hS hL)
theorem jk_dup (X : jX E own Ts cl tb nL ini cc M) {pc : Nat} (hd : decode cc pc = .ok (.dup, 1)) {lv : List (Option jv)} {r : List jv} {σ : Nat → jcell} {v : jv} (hv : jcat v = 1) (k : jJ E cl nL M Q n cells slots (pc + 1) lv (v :: v :: r) σ) : jJ E cl nL M Q n cells slots pc lv (v :: r) σ := by
  obtain ⟨hx, hb, -⟩ := X
  exact fun H locs ls hW hS hL => lv_dup (va := jc E v) hx hb hd ((jc_cat E v).trans hv) (k H locs ls hW hS hL)
theorem jk_pop (X : jX E own Ts cl tb nL ini cc M) {pc : Nat} (hd : decode cc pc = .ok (.pop, 1)) {lv : List (Option jv)} {r : List jv} {σ : Nat → jcell} {v : jv} (hv : jcat v = 1) (k : jJ E cl nL M Q n cells slots (pc + 1) lv (r) σ) : jJ E cl nL M Q n cells slots pc lv (v :: r) σ := by
  obtain ⟨hx, hb, -⟩ := X
  exact fun H locs ls hW hS hL => lv_pop (va := jc E v) hx hb hd ((jc_cat E v).trans hv) (k H locs ls hW hS hL)
theorem jk_dup_x1 (X : jX E own Ts cl tb nL ini cc M) {pc : Nat} (hd : decode cc pc = .ok (.dup_x1, 1)) {lv : List (Option jv)} {r : List jv} {σ : Nat → jcell} {v w : jv} (hv : jcat v = 1) (hw : jcat w = 1) (k : jJ E cl nL M Q n cells slots (pc + 1) lv (v :: w :: v :: r) σ) : jJ E cl nL M Q n cells slots pc lv (v :: w :: r) σ := by
  obtain ⟨hx, hb, -⟩ := X
  exact fun H locs ls hW hS hL => lv_dup_x1 (va := jc E v) (vb := jc E w) hx hb hd ((jc_cat E v).trans hv) ((jc_cat E w).trans hw) (k H locs ls hW hS hL)
theorem jk_dup_x2 (X : jX E own Ts cl tb nL ini cc M) {pc : Nat} (hd : decode cc pc = .ok (.dup_x2, 1)) {lv : List (Option jv)} {r : List jv} {σ : Nat → jcell} {v w z : jv} (hv : jcat v = 1) (hw : jcat w = 1) (hz : jcat z = 1) (k : jJ E cl nL M Q n cells slots (pc + 1) lv (v :: w :: z :: v :: r) σ) : jJ E cl nL M Q n cells slots pc lv (v :: w :: z :: r) σ := by
  obtain ⟨hx, hb, -⟩ := X
  exact fun H locs ls hW hS hL => lv_dup_x2 (va := jc E v) (vb := jc E w) (vd := jc E z) hx hb hd ((jc_cat E v).trans hv) ((jc_cat E w).trans hw) ((jc_cat E z).trans hz) (k H locs ls hW hS hL)
theorem jk_dup2_11 (X : jX E own Ts cl tb nL ini cc M) {pc : Nat} (hd : decode cc pc = .ok (.dup2, 1)) {lv : List (Option jv)} {r : List jv} {σ : Nat → jcell} {v w : jv} (hv : jcat v = 1) (hw : jcat w = 1) (k : jJ E cl nL M Q n cells slots (pc + 1) lv (v :: w :: v :: w :: r) σ) : jJ E cl nL M Q n cells slots pc lv (v :: w :: r) σ := by
  obtain ⟨hx, hb, -⟩ := X
  exact fun H locs ls hW hS hL => lv_dup2_11 (va := jc E v) (vb := jc E w) hx hb hd ((jc_cat E v).trans hv) ((jc_cat E w).trans hw) (k H locs ls hW hS hL)
theorem jk_dup2_2 (X : jX E own Ts cl tb nL ini cc M) {pc : Nat} (hd : decode cc pc = .ok (.dup2, 1)) {lv : List (Option jv)} {r : List jv} {σ : Nat → jcell} {x : Int64} (k : jJ E cl nL M Q n cells slots (pc + 1) lv (.inr (.inl x) :: .inr (.inl x) :: r) σ) : jJ E cl nL M Q n cells slots pc lv (.inr (.inl x) :: r) σ := by
  obtain ⟨hx, hb, -⟩ := X
  exact fun H locs ls hW hS hL => lv_dup2_2 (va := .long x) hx hb hd rfl (k H locs ls hW hS hL)
theorem jk_iconst (X : jX E own Ts cl tb nL ini cc M) {pc : Nat} {i : Int} {v : Int32} (hd : decode cc pc = .ok (.iconst i, 1)) (hv : Int32.ofInt i = v) {lv : List (Option jv)} {r : List jv} {σ : Nat → jcell} (k : jJ E cl nL M Q n cells slots (pc + 1) lv (.inl v :: r) σ) : jJ E cl nL M Q n cells slots pc lv r σ := by
  obtain ⟨hx, hb, -⟩ := X
  exact fun H locs ls hW hS hL => lv_iconst hx hb hd hv (k H locs ls hW hS hL)
theorem jk_bipush (X : jX E own Ts cl tb nL ini cc M) {pc : Nat} {i : Int} {v : Int32} (hd : decode cc pc = .ok (.bipush i, 2)) (hv : (Int8.ofInt i).toInt32 = v) {lv : List (Option jv)} {r : List jv} {σ : Nat → jcell} (k : jJ E cl nL M Q n cells slots (pc + 2) lv (.inl v :: r) σ) : jJ E cl nL M Q n cells slots pc lv r σ := by
  obtain ⟨hx, hb, -⟩ := X
  exact fun H locs ls hW hS hL => lv_bipush hx hb hd hv (k H locs ls hW hS hL)
theorem jk_sipush (X : jX E own Ts cl tb nL ini cc M) {pc : Nat} {i : Int} {v : Int32} (hd : decode cc pc = .ok (.sipush i, 3)) (hv : (Int16.ofInt i).toInt32 = v) {lv : List (Option jv)} {r : List jv} {σ : Nat → jcell} (k : jJ E cl nL M Q n cells slots (pc + 3) lv (.inl v :: r) σ) : jJ E cl nL M Q n cells slots pc lv r σ := by
  obtain ⟨hx, hb, -⟩ := X
  exact fun H locs ls hW hS hL => lv_sipush hx hb hd hv (k H locs ls hW hS hL)
theorem jk_lconst (X : jX E own Ts cl tb nL ini cc M) {pc : Nat} {i : Fin 2} {v : Int64} (hd : decode cc pc = .ok (.lconst i, 1)) (hv : Int64.ofNat (i : Nat) = v) {lv : List (Option jv)} {r : List jv} {σ : Nat → jcell} (k : jJ E cl nL M Q n cells slots (pc + 1) lv (.inr (.inl v) :: r) σ) : jJ E cl nL M Q n cells slots pc lv r σ := by
  obtain ⟨hx, hb, -⟩ := X
  exact fun H locs ls hW hS hL => lv_lconst hx hb hd hv (k H locs ls hW hS hL)
theorem jk_ldc (X : jX E own Ts cl tb nL ini cc M) {pc i wi : Nat} {v : Int32} (hd : decode cc pc = .ok (.ldc i, 2)) (hw : Ts[wi]? = some (Jvm.Cond.constant own i v)) {lv : List (Option jv)} {r : List jv} {σ : Nat → jcell} (k : jJ E cl nL M Q n cells slots (pc + 2) lv (.inl v :: r) σ) : jJ E cl nL M Q n cells slots pc lv r σ := by
  obtain ⟨hx, hb, -, ho, hts, -⟩ := X
  exact fun H locs ls hW hS hL => lv_ldc hx hb ho (hts _ (jTA_in hw rfl)) hd (k H locs ls hW hS hL)
theorem jk_ldc2 (X : jX E own Ts cl tb nL ini cc M) {pc i wi : Nat} {v : Int64} (hd : decode cc pc = .ok (.ldc2_w i, 3)) (hw : Ts[wi]? = some (Jvm.Cond.constantLong own i v)) {lv : List (Option jv)} {r : List jv} {σ : Nat → jcell} (k : jJ E cl nL M Q n cells slots (pc + 3) lv (.inr (.inl v) :: r) σ) : jJ E cl nL M Q n cells slots pc lv r σ := by
  obtain ⟨hx, hb, -, ho, hts, -⟩ := X
  exact fun H locs ls hW hS hL => lv_ldc2 hx hb ho (hts _ (jTA_in hw rfl)) hd (k H locs ls hW hS hL)
theorem jk_iload_n (X : jX E own Ts cl tb nL ini cc M) {pc : Nat} {i : Fin 4} (hd : decode cc pc = .ok (.iload_n i, 1)) {lv : List (Option jv)} {r : List jv} {σ : Nat → jcell} {x : Int32} (hl : lv[i.val]? = some (some (.inl x))) (k : jJ E cl nL M Q n cells slots (pc + 1) lv (.inl x :: r) σ) : jJ E cl nL M Q n cells slots pc lv r σ := by
  obtain ⟨hx, hb, -⟩ := X
  exact fun H locs ls hW hS hL => lv_iload_n hx hb hd rfl (hL.2.2 _ _ hl) (k H locs ls hW hS hL)
theorem jk_iload (X : jX E own Ts cl tb nL ini cc M) {pc i : Nat} (hd : decode cc pc = .ok (.iload i, 2)) {lv : List (Option jv)} {r : List jv} {σ : Nat → jcell} {x : Int32} (hl : lv[i]? = some (some (.inl x))) (k : jJ E cl nL M Q n cells slots (pc + 2) lv (.inl x :: r) σ) : jJ E cl nL M Q n cells slots pc lv r σ := by
  obtain ⟨hx, hb, -⟩ := X
  exact fun H locs ls hW hS hL => lv_iload hx hb hd (hL.2.2 _ _ hl) (k H locs ls hW hS hL)
theorem jk_lload_n (X : jX E own Ts cl tb nL ini cc M) {pc : Nat} {i : Fin 4} (hd : decode cc pc = .ok (.lload_n i, 1)) {lv : List (Option jv)} {r : List jv} {σ : Nat → jcell} {x : Int64} (hl : lv[i.val]? = some (some (.inr (.inl x)))) (k : jJ E cl nL M Q n cells slots (pc + 1) lv (.inr (.inl x) :: r) σ) : jJ E cl nL M Q n cells slots pc lv r σ := by
  obtain ⟨hx, hb, -⟩ := X
  exact fun H locs ls hW hS hL => lv_lload_n hx hb hd rfl (hL.2.2 _ _ hl) (k H locs ls hW hS hL)
theorem jk_lload (X : jX E own Ts cl tb nL ini cc M) {pc i : Nat} (hd : decode cc pc = .ok (.lload i, 2)) {lv : List (Option jv)} {r : List jv} {σ : Nat → jcell} {x : Int64} (hl : lv[i]? = some (some (.inr (.inl x)))) (k : jJ E cl nL M Q n cells slots (pc + 2) lv (.inr (.inl x) :: r) σ) : jJ E cl nL M Q n cells slots pc lv r σ := by
  obtain ⟨hx, hb, -⟩ := X
  exact fun H locs ls hW hS hL => lv_lload hx hb hd (hL.2.2 _ _ hl) (k H locs ls hW hS hL)
theorem jk_aload_n (X : jX E own Ts cl tb nL ini cc M) {pc : Nat} {i : Fin 4} (hd : decode cc pc = .ok (.aload_n i, 1)) {lv : List (Option jv)} {r : List jv} {σ : Nat → jcell} {x : Option (Nat ⊕ Nat)} (hl : lv[i.val]? = some (some (.inr (.inr x)))) (k : jJ E cl nL M Q n cells slots (pc + 1) lv (.inr (.inr x) :: r) σ) : jJ E cl nL M Q n cells slots pc lv r σ := by
  obtain ⟨hx, hb, -⟩ := X
  rcases x with _ | a | a
  · exact fun H locs ls hW hS hL => lv_aload_nN hx hb hd rfl (hL.2.2 _ _ hl) (k H locs ls hW hS hL)
  · exact fun H locs ls hW hS hL => lv_aload_n hx hb hd rfl (hL.2.2 _ _ hl) (k H locs ls hW hS hL)
  · exact fun H locs ls hW hS hL => lv_aload_n hx hb hd rfl (hL.2.2 _ _ hl) (k H locs ls hW hS hL)
theorem jk_aload (X : jX E own Ts cl tb nL ini cc M) {pc i : Nat} (hd : decode cc pc = .ok (.aload i, 2)) {lv : List (Option jv)} {r : List jv} {σ : Nat → jcell} {x : Option (Nat ⊕ Nat)} (hl : lv[i]? = some (some (.inr (.inr x)))) (k : jJ E cl nL M Q n cells slots (pc + 2) lv (.inr (.inr x) :: r) σ) : jJ E cl nL M Q n cells slots pc lv r σ := by
  obtain ⟨hx, hb, -⟩ := X
  rcases x with _ | a | a
  · exact fun H locs ls hW hS hL => lv_aloadN hx hb hd (hL.2.2 _ _ hl) (k H locs ls hW hS hL)
  · exact fun H locs ls hW hS hL => lv_aload hx hb hd (hL.2.2 _ _ hl) (k H locs ls hW hS hL)
  · exact fun H locs ls hW hS hL => lv_aload hx hb hd (hL.2.2 _ _ hl) (k H locs ls hW hS hL)
theorem jk_istore_n (X : jX E own Ts cl tb nL ini cc M) {pc : Nat} {i : Fin 4} (hd : decode cc pc = .ok (.istore_n i, 1)) (hi : i.val < nL) {lv : List (Option jv)} {r : List jv} {σ : Nat → jcell} {x : Int32} (k : jJ E cl nL M Q n cells slots (pc + 1) (jset1 lv i.val (.inl x)) r σ) : jJ E cl nL M Q n cells slots pc lv (.inl x :: r) σ := by
  obtain ⟨hx, hb, -⟩ := X
  (intro H locs ls hW hS hL
   obtain ⟨ls', e', h'⟩ := jlv_st1 hL hi (v := .inl x) rfl
   intro T hT X
   obtain ⟨t, a1, b1⟩ := k H locs ls' hW hS h' T hT X
   refine ⟨t, ?_, b1⟩
   (simp only [jc] at e'
    jvm_step X.here [X.here.top, ↓top_set X.here.top, hx, hb, hd, e', List.map_cons, jc]
    exact a1))
theorem jk_istore (X : jX E own Ts cl tb nL ini cc M) {pc : Nat} {i : Nat} (hd : decode cc pc = .ok (.istore i, 2)) (hi : i < nL) {lv : List (Option jv)} {r : List jv} {σ : Nat → jcell} {x : Int32} (k : jJ E cl nL M Q n cells slots (pc + 2) (jset1 lv i (.inl x)) r σ) : jJ E cl nL M Q n cells slots pc lv (.inl x :: r) σ := by
  obtain ⟨hx, hb, -⟩ := X
  (intro H locs ls hW hS hL
   obtain ⟨ls', e', h'⟩ := jlv_st1 hL hi (v := .inl x) rfl
   intro T hT X
   obtain ⟨t, a1, b1⟩ := k H locs ls' hW hS h' T hT X
   refine ⟨t, ?_, b1⟩
   (simp only [jc] at e'
    jvm_step X.here [X.here.top, ↓top_set X.here.top, hx, hb, hd, e', List.map_cons, jc]
    exact a1))
theorem jk_lstore_n (X : jX E own Ts cl tb nL ini cc M) {pc : Nat} {i : Fin 4} (hd : decode cc pc = .ok (.lstore_n i, 1)) (hi : i.val + 1 < nL) {lv : List (Option jv)} {r : List jv} {σ : Nat → jcell} {x : Int64} (k : jJ E cl nL M Q n cells slots (pc + 1) (jset2 lv i.val (.inr (.inl x))) r σ) : jJ E cl nL M Q n cells slots pc lv (.inr (.inl x) :: r) σ := by
  obtain ⟨hx, hb, -⟩ := X
  (intro H locs ls hW hS hL
   obtain ⟨ls', e', h'⟩ := jlv_st2 hL hi (v := .inr (.inl x)) rfl
   intro T hT X
   obtain ⟨t, a1, b1⟩ := k H locs ls' hW hS h' T hT X
   refine ⟨t, ?_, b1⟩
   (simp only [jc] at e'
    jvm_step X.here [X.here.top, ↓top_set X.here.top, hx, hb, hd, e', List.map_cons, jc]
    exact a1))
theorem jk_lstore (X : jX E own Ts cl tb nL ini cc M) {pc : Nat} {i : Nat} (hd : decode cc pc = .ok (.lstore i, 2)) (hi : i + 1 < nL) {lv : List (Option jv)} {r : List jv} {σ : Nat → jcell} {x : Int64} (k : jJ E cl nL M Q n cells slots (pc + 2) (jset2 lv i (.inr (.inl x))) r σ) : jJ E cl nL M Q n cells slots pc lv (.inr (.inl x) :: r) σ := by
  obtain ⟨hx, hb, -⟩ := X
  (intro H locs ls hW hS hL
   obtain ⟨ls', e', h'⟩ := jlv_st2 hL hi (v := .inr (.inl x)) rfl
   intro T hT X
   obtain ⟨t, a1, b1⟩ := k H locs ls' hW hS h' T hT X
   refine ⟨t, ?_, b1⟩
   (simp only [jc] at e'
    jvm_step X.here [X.here.top, ↓top_set X.here.top, hx, hb, hd, e', List.map_cons, jc]
    exact a1))
theorem jk_astore_n (X : jX E own Ts cl tb nL ini cc M) {pc : Nat} {i : Fin 4} (hd : decode cc pc = .ok (.astore_n i, 1)) (hi : i.val < nL) {lv : List (Option jv)} {r : List jv} {σ : Nat → jcell} {x : Option (Nat ⊕ Nat)} (k : jJ E cl nL M Q n cells slots (pc + 1) (jset1 lv i.val (.inr (.inr x))) r σ) : jJ E cl nL M Q n cells slots pc lv (.inr (.inr x) :: r) σ := by
  obtain ⟨hx, hb, -⟩ := X
  (intro H locs ls hW hS hL
   obtain ⟨ls', e', h'⟩ := jlv_st1 hL hi (v := .inr (.inr x)) rfl
   intro T hT X
   obtain ⟨t, a1, b1⟩ := k H locs ls' hW hS h' T hT X
   refine ⟨t, ?_, b1⟩
   rcases x with _ | a | a <;>
   (simp only [jc] at e'
    jvm_step X.here [X.here.top, ↓top_set X.here.top, hx, hb, hd, e', Value.isRef, List.map_cons, jc]
    exact a1))
theorem jk_astore (X : jX E own Ts cl tb nL ini cc M) {pc : Nat} {i : Nat} (hd : decode cc pc = .ok (.astore i, 2)) (hi : i < nL) {lv : List (Option jv)} {r : List jv} {σ : Nat → jcell} {x : Option (Nat ⊕ Nat)} (k : jJ E cl nL M Q n cells slots (pc + 2) (jset1 lv i (.inr (.inr x))) r σ) : jJ E cl nL M Q n cells slots pc lv (.inr (.inr x) :: r) σ := by
  obtain ⟨hx, hb, -⟩ := X
  (intro H locs ls hW hS hL
   obtain ⟨ls', e', h'⟩ := jlv_st1 hL hi (v := .inr (.inr x)) rfl
   intro T hT X
   obtain ⟨t, a1, b1⟩ := k H locs ls' hW hS h' T hT X
   refine ⟨t, ?_, b1⟩
   rcases x with _ | a | a <;>
   (simp only [jc] at e'
    jvm_step X.here [X.here.top, ↓top_set X.here.top, hx, hb, hd, e', Value.isRef, List.map_cons, jc]
    exact a1))
theorem jk_iinc (X : jX E own Ts cl tb nL ini cc M) {pc i : Nat} {z : Int} {v : Int32} (hd : decode cc pc = .ok (.iinc i z, 3)) (hi : i < nL) (hv : Int32.ofInt z = v) {lv : List (Option jv)} {r : List jv} {σ : Nat → jcell} {x : Int32} (hl : lv[i]? = some (some (.inl x))) (k : jJ E cl nL M Q n cells slots (pc + 3) (jset1 lv i (.inl (x + v))) r σ) : jJ E cl nL M Q n cells slots pc lv r σ := by
  obtain ⟨hx, hb, -⟩ := X
  subst hv
  intro H locs ls hW hS hL
  have hg := hL.2.2 _ _ hl
  obtain ⟨ls', e', h'⟩ := jlv_st1 hL hi (v := .inl (x + Int32.ofInt z)) rfl
  intro T hT X
  obtain ⟨t, a1, b1⟩ := k H locs ls' hW hS h' T hT X
  refine ⟨t, ?_, b1⟩
  simp only [jc] at e' hg
  jvm_step X.here [X.here.top, ↓top_set X.here.top, hx, hb, hd, hg, e']
  exact a1
theorem jk_if (X : jX E own Ts cl tb nL ini cc M) {pc tg : Nat} {cd : Jvm.ClassFile.Cond} {z : Int} (hd : decode cc pc = .ok (.ifCond cd z, 3)) (ht : (pc : Int) + z = (tg : Int)) {lv : List (Option jv)} {r : List jv} {σ : Nat → jcell} {x : Int32} {A B : Prop} (h : jbr cd x 0 A B) (ka : A → jJ E cl nL M Q n cells slots tg lv r σ) (kb : B → jJ E cl nL M Q n cells slots (pc + 3) lv r σ) : jJ E cl nL M Q n cells slots pc lv (.inl x :: r) σ := by
  obtain ⟨hx, hb, -⟩ := X
  intro H locs ls hW hS hL
  cases cd
  · exact lv_if_eq hx hb hd ht (fun q => ka (h.1 q) H locs ls hW hS hL) (fun q => kb (h.2 q) H locs ls hW hS hL)
  · exact lv_if_ne hx hb hd ht (fun q => ka (h.1 q) H locs ls hW hS hL) (fun q => kb (h.2 q) H locs ls hW hS hL)
  · exact lv_if_lt hx hb hd ht (fun q => ka (h.1 q) H locs ls hW hS hL) (fun q => kb (h.2 q) H locs ls hW hS hL)
  · exact lv_if_ge hx hb hd ht (fun q => ka (h.1 q) H locs ls hW hS hL) (fun q => kb (h.2 q) H locs ls hW hS hL)
  · exact lv_if_gt hx hb hd ht (fun q => ka (h.1 q) H locs ls hW hS hL) (fun q => kb (h.2 q) H locs ls hW hS hL)
  · exact lv_if_le hx hb hd ht (fun q => ka (h.1 q) H locs ls hW hS hL) (fun q => kb (h.2 q) H locs ls hW hS hL)
theorem jk_icmp (X : jX E own Ts cl tb nL ini cc M) {pc tg : Nat} {cd : Jvm.ClassFile.Cond} {z : Int} (hd : decode cc pc = .ok (.if_icmp cd z, 3)) (ht : (pc : Int) + z = (tg : Int)) {lv : List (Option jv)} {r : List jv} {σ : Nat → jcell} {x y : Int32} {A B : Prop} (h : jbr cd x y A B) (ka : A → jJ E cl nL M Q n cells slots tg lv r σ) (kb : B → jJ E cl nL M Q n cells slots (pc + 3) lv r σ) : jJ E cl nL M Q n cells slots pc lv (.inl y :: .inl x :: r) σ := by
  obtain ⟨hx, hb, -⟩ := X
  intro H locs ls hW hS hL
  cases cd
  · exact lv_icmp_eq hx hb hd ht (fun q => ka (h.1 q) H locs ls hW hS hL) (fun q => kb (h.2 q) H locs ls hW hS hL)
  · exact lv_icmp_ne hx hb hd ht (fun q => ka (h.1 q) H locs ls hW hS hL) (fun q => kb (h.2 q) H locs ls hW hS hL)
  · exact lv_icmp_lt hx hb hd ht (fun q => ka (h.1 q) H locs ls hW hS hL) (fun q => kb (h.2 q) H locs ls hW hS hL)
  · exact lv_icmp_ge hx hb hd ht (fun q => ka (h.1 q) H locs ls hW hS hL) (fun q => kb (h.2 q) H locs ls hW hS hL)
  · exact lv_icmp_gt hx hb hd ht (fun q => ka (h.1 q) H locs ls hW hS hL) (fun q => kb (h.2 q) H locs ls hW hS hL)
  · exact lv_icmp_le hx hb hd ht (fun q => ka (h.1 q) H locs ls hW hS hL) (fun q => kb (h.2 q) H locs ls hW hS hL)
theorem jk_goto (X : jX E own Ts cl tb nL ini cc M) {pc tg : Nat} {z : Int} (hd : decode cc pc = .ok (.goto z, 3)) (ht : (pc : Int) + z = (tg : Int)) {lv : List (Option jv)} {r : List jv} {σ : Nat → jcell} (k : jJ E cl nL M Q n cells slots tg lv r σ) : jJ E cl nL M Q n cells slots pc lv r σ := by
  obtain ⟨hx, hb, -⟩ := X
  exact fun H locs ls hW hS hL => lv_goto hx hb hd ht (k H locs ls hW hS hL)
theorem jk_ifnull (X : jX E own Ts cl tb nL ini cc M) {pc tg : Nat} {z : Int} (hd : decode cc pc = .ok (.ifnull z, 3)) (ht : (pc : Int) + z = (tg : Int)) {lv : List (Option jv)} {r : List jv} {σ : Nat → jcell} {x : Option (Nat ⊕ Nat)} (ka : x = none → jJ E cl nL M Q n cells slots tg lv r σ) (kb : ¬ x = none → jJ E cl nL M Q n cells slots (pc + 3) lv r σ) : jJ E cl nL M Q n cells slots pc lv (.inr (.inr x) :: r) σ := by
  obtain ⟨hx, hb, -⟩ := X
  intro H locs ls hW hS hL
  rcases x with _ | a | a
  · exact lv_ifnullN hx hb hd ht (ka rfl H locs ls hW hS hL)
  · exact lv_ifnull hx hb hd (kb (fun q => by cases q) H locs ls hW hS hL)
  · exact lv_ifnull hx hb hd (kb (fun q => by cases q) H locs ls hW hS hL)
theorem jk_ifnonnull (X : jX E own Ts cl tb nL ini cc M) {pc tg : Nat} {z : Int} (hd : decode cc pc = .ok (.ifnonnull z, 3)) (ht : (pc : Int) + z = (tg : Int)) {lv : List (Option jv)} {r : List jv} {σ : Nat → jcell} {x : Option (Nat ⊕ Nat)} (ka : ¬ x = none → jJ E cl nL M Q n cells slots tg lv r σ) (kb : x = none → jJ E cl nL M Q n cells slots (pc + 3) lv r σ) : jJ E cl nL M Q n cells slots pc lv (.inr (.inr x) :: r) σ := by
  obtain ⟨hx, hb, -⟩ := X
  intro H locs ls hW hS hL
  rcases x with _ | a | a
  · exact lv_ifnonnullN hx hb hd (kb rfl H locs ls hW hS hL)
  · exact lv_ifnonnull hx hb hd ht (ka (fun q => by cases q) H locs ls hW hS hL)
  · exact lv_ifnonnull hx hb hd ht (ka (fun q => by cases q) H locs ls hW hS hL)
theorem jk_iald (X : jX E own Ts cl tb nL ini cc M) {pc : Nat} (hd : decode cc pc = .ok (.iaload, 1)) {lv : List (Option jv)} {r : List jv} {σ : Nat → jcell} {i : Int32} {a len : Nat} {g : Nat → Int32} (ha : a < n) (he : σ a = .inl (.int, len, .inl g)) (hin : vp_in i len) (k : jJ E cl nL M Q n cells slots (pc + 1) lv (.inl (g i.toNatClampNeg) :: r) σ) : jJ E cl nL M Q n cells slots pc lv (.inl i :: .inr (.inr (some (.inl a))) :: r) σ := by
  obtain ⟨hx, hb, -, -, -, ⟨hK, -⟩, -⟩ := X
  intro H locs ls hW hS hL
  have hP := jW_one hW ha (by rw [he]; simp only [jkn]; first | done | decide | assumption)
  rw [he] at hP
  obtain ⟨t0, ht0⟩ := jty_in (E := E) (t := .int) (by decide)
  exact va_iald hx hb hK hP 0 t0 rfl ht0 hin hd (k H locs ls hW hS hL)
theorem jk_ialdT (X : jX E own Ts cl tb nL ini cc M) {pc : Nat} (hd : decode cc pc = .ok (.iaload, 1)) {lv : List (Option jv)} {r : List jv} {σ : Nat → jcell} {i : Int32} {j len : Nat} {g : Nat → Int32} {s1 s2 s3 : String} (he : tb j = some (s1, s2, s3, .int, len, g)) (hin : vp_in i len) (k : jJ E cl nL M Q n cells slots (pc + 1) lv (.inl (g i.toNatClampNeg) :: r) σ) : jJ E cl nL M Q n cells slots pc lv (.inl i :: .inr (.inr (some (.inr j))) :: r) σ := by
  obtain ⟨hx, hb, -, -, -, ⟨-, hT, -⟩, -⟩ := X
  exact fun H locs ls hW hS hL => va_ti hx hb (hT.1 j _ he).2 hS hin rfl hd (k H locs ls hW hS hL)
theorem jk_bald (X : jX E own Ts cl tb nL ini cc M) {pc : Nat} (hd : decode cc pc = .ok (.baload, 1)) {lv : List (Option jv)} {r : List jv} {σ : Nat → jcell} {i : Int32} {a len : Nat} {g : Nat → Int32} (ha : a < n) (he : σ a = .inl (.byte, len, .inl g)) (hin : vp_in i len) (k : jJ E cl nL M Q n cells slots (pc + 1) lv (.inl (g i.toNatClampNeg) :: r) σ) : jJ E cl nL M Q n cells slots pc lv (.inl i :: .inr (.inr (some (.inl a))) :: r) σ := by
  obtain ⟨hx, hb, -, -, -, ⟨hK, -⟩, -⟩ := X
  intro H locs ls hW hS hL
  have hP := jW_one hW ha (by rw [he]; simp only [jkn]; first | done | decide | assumption)
  rw [he] at hP
  obtain ⟨t0, ht0⟩ := jty_in (E := E) (t := .byte) (by decide)
  exact va_bald hx hb hK hP 0 t0 rfl ht0 hin hd (k H locs ls hW hS hL)
theorem jk_baldT (X : jX E own Ts cl tb nL ini cc M) {pc : Nat} (hd : decode cc pc = .ok (.baload, 1)) {lv : List (Option jv)} {r : List jv} {σ : Nat → jcell} {i : Int32} {j len : Nat} {g : Nat → Int32} {s1 s2 s3 : String} (he : tb j = some (s1, s2, s3, .byte, len, g)) (hin : vp_in i len) (k : jJ E cl nL M Q n cells slots (pc + 1) lv (.inl (g i.toNatClampNeg) :: r) σ) : jJ E cl nL M Q n cells slots pc lv (.inl i :: .inr (.inr (some (.inr j))) :: r) σ := by
  obtain ⟨hx, hb, -, -, -, ⟨-, hT, -⟩, -⟩ := X
  exact fun H locs ls hW hS hL => va_tb hx hb (hT.1 j _ he).2 hS hin rfl hd (k H locs ls hW hS hL)
theorem jk_zald (X : jX E own Ts cl tb nL ini cc M) {pc : Nat} (hd : decode cc pc = .ok (.baload, 1)) {lv : List (Option jv)} {r : List jv} {σ : Nat → jcell} {i : Int32} {a len : Nat} {g : Nat → Int32} (ha : a < n) (he : σ a = .inl (.boolean, len, .inl g)) (hin : vp_in i len) (k : jJ E cl nL M Q n cells slots (pc + 1) lv (.inl (g i.toNatClampNeg) :: r) σ) : jJ E cl nL M Q n cells slots pc lv (.inl i :: .inr (.inr (some (.inl a))) :: r) σ := by
  obtain ⟨hx, hb, -, -, -, ⟨hK, -⟩, -⟩ := X
  intro H locs ls hW hS hL
  have hP := jW_one hW ha (by rw [he]; simp only [jkn]; first | done | decide | assumption)
  rw [he] at hP
  obtain ⟨t0, ht0⟩ := jty_in (E := E) (t := .boolean) (by decide)
  exact va_zald hx hb hK hP 0 t0 rfl ht0 hin hd (k H locs ls hW hS hL)
theorem jk_zaldT (X : jX E own Ts cl tb nL ini cc M) {pc : Nat} (hd : decode cc pc = .ok (.baload, 1)) {lv : List (Option jv)} {r : List jv} {σ : Nat → jcell} {i : Int32} {j len : Nat} {g : Nat → Int32} {s1 s2 s3 : String} (he : tb j = some (s1, s2, s3, .boolean, len, g)) (hin : vp_in i len) (k : jJ E cl nL M Q n cells slots (pc + 1) lv (.inl (g i.toNatClampNeg) :: r) σ) : jJ E cl nL M Q n cells slots pc lv (.inl i :: .inr (.inr (some (.inr j))) :: r) σ := by
  obtain ⟨hx, hb, -, -, -, ⟨-, hT, -⟩, -⟩ := X
  exact fun H locs ls hW hS hL => va_tz hx hb (hT.1 j _ he).2 hS hin rfl hd (k H locs ls hW hS hL)
theorem jk_cald (X : jX E own Ts cl tb nL ini cc M) {pc : Nat} (hd : decode cc pc = .ok (.caload, 1)) {lv : List (Option jv)} {r : List jv} {σ : Nat → jcell} {i : Int32} {a len : Nat} {g : Nat → Int32} (ha : a < n) (he : σ a = .inl (.char, len, .inl g)) (hin : vp_in i len) (k : jJ E cl nL M Q n cells slots (pc + 1) lv (.inl (g i.toNatClampNeg) :: r) σ) : jJ E cl nL M Q n cells slots pc lv (.inl i :: .inr (.inr (some (.inl a))) :: r) σ := by
  obtain ⟨hx, hb, -, -, -, ⟨hK, -⟩, -⟩ := X
  intro H locs ls hW hS hL
  have hP := jW_one hW ha (by rw [he]; simp only [jkn]; first | done | decide | assumption)
  rw [he] at hP
  obtain ⟨t0, ht0⟩ := jty_in (E := E) (t := .char) (by decide)
  exact va_cald hx hb hK hP 0 t0 rfl ht0 hin hd (k H locs ls hW hS hL)
theorem jk_caldT (X : jX E own Ts cl tb nL ini cc M) {pc : Nat} (hd : decode cc pc = .ok (.caload, 1)) {lv : List (Option jv)} {r : List jv} {σ : Nat → jcell} {i : Int32} {j len : Nat} {g : Nat → Int32} {s1 s2 s3 : String} (he : tb j = some (s1, s2, s3, .char, len, g)) (hin : vp_in i len) (k : jJ E cl nL M Q n cells slots (pc + 1) lv (.inl (g i.toNatClampNeg) :: r) σ) : jJ E cl nL M Q n cells slots pc lv (.inl i :: .inr (.inr (some (.inr j))) :: r) σ := by
  obtain ⟨hx, hb, -, -, -, ⟨-, hT, -⟩, -⟩ := X
  exact fun H locs ls hW hS hL => va_tc hx hb (hT.1 j _ he).2 hS hin rfl hd (k H locs ls hW hS hL)
theorem jk_iast (X : jX E own Ts cl tb nL ini cc M) {pc : Nat} (hd : decode cc pc = .ok (.iastore, 1)) {lv : List (Option jv)} {r : List jv} {σ : Nat → jcell} {i x : Int32} {a len : Nat} {g : Nat → Int32} (ha : a < n) (he : σ a = .inl (.int, len, .inl g)) (hin : vp_in i len) (k : jJ E cl nL M Q n cells slots (pc + 1) lv r (jup σ a (.inl (.int, len, .inl (upd g i.toNatClampNeg (vp_nar .int x)))))) : jJ E cl nL M Q n cells slots pc lv (.inl x :: .inl i :: .inr (.inr (some (.inl a))) :: r) σ := by
  obtain ⟨hx, hb, -, -, -, ⟨hK, -⟩, -⟩ := X
  intro H locs ls hW hS hL
  have hP := hW.2 a ha (by rw [he]; simp only [jkn]; first | done | decide | assumption)
  rw [he] at hP
  obtain ⟨t0, ht0⟩ := jty_in (E := E) (t := .int) (by decide)
  refine W.iast hx hb hP ((hK.2 t0 _ ht0).1 len (fun j => .int (g j))) (fun q => by cases q) (by show ¬ (i < 0 ∨ (arrV _ _ _).slots.size ≤ _); rw [arrV_size]; exact hin) rfl rfl hd fun H1 e z oq => ?_
  refine k H1 _ ls (jW_set hW z oq ?_) (jS_put hS z oq) hL
  show H1[_]? = some (vp_cell _ _)
  rw [e]
  show some ((vp_cell _ (len, .inl g)).setSlot _ _) = _
  rw [vp_cell_i, vp_cell_i, arrV_store]
  congr 2
  funext q
  by_cases hq : q = i.toNatClampNeg
  · subst hq
    simp [updV, upd, vp_nar]
    try rfl
  · simp [updV, upd, hq]
theorem jk_bast (X : jX E own Ts cl tb nL ini cc M) {pc : Nat} (hd : decode cc pc = .ok (.bastore, 1)) {lv : List (Option jv)} {r : List jv} {σ : Nat → jcell} {i x : Int32} {a len : Nat} {g : Nat → Int32} (ha : a < n) (he : σ a = .inl (.byte, len, .inl g)) (hin : vp_in i len) (k : jJ E cl nL M Q n cells slots (pc + 1) lv r (jup σ a (.inl (.byte, len, .inl (upd g i.toNatClampNeg (vp_nar .byte x)))))) : jJ E cl nL M Q n cells slots pc lv (.inl x :: .inl i :: .inr (.inr (some (.inl a))) :: r) σ := by
  obtain ⟨hx, hb, -, -, -, ⟨hK, -⟩, -⟩ := X
  intro H locs ls hW hS hL
  have hP := hW.2 a ha (by rw [he]; simp only [jkn]; first | done | decide | assumption)
  rw [he] at hP
  obtain ⟨t0, ht0⟩ := jty_in (E := E) (t := .byte) (by decide)
  refine W.bast hx hb hP ((hK.2 t0 _ ht0).1 len (fun j => .int (g j))) (fun q => by cases q) (by show ¬ (i < 0 ∨ (arrV _ _ _).slots.size ≤ _); rw [arrV_size]; exact hin) rfl rfl hd fun H1 e z oq => ?_
  refine k H1 _ ls (jW_set hW z oq ?_) (jS_put hS z oq) hL
  show H1[_]? = some (vp_cell _ _)
  rw [e]
  show some ((vp_cell _ (len, .inl g)).setSlot _ _) = _
  rw [vp_cell_i, vp_cell_i, arrV_store]
  congr 2
  funext q
  by_cases hq : q = i.toNatClampNeg
  · subst hq
    simp [updV, upd, vp_nar]
    try rfl
  · simp [updV, upd, hq]
theorem jk_zast (X : jX E own Ts cl tb nL ini cc M) {pc : Nat} (hd : decode cc pc = .ok (.bastore, 1)) {lv : List (Option jv)} {r : List jv} {σ : Nat → jcell} {i x : Int32} {a len : Nat} {g : Nat → Int32} (ha : a < n) (he : σ a = .inl (.boolean, len, .inl g)) (hin : vp_in i len) (k : jJ E cl nL M Q n cells slots (pc + 1) lv r (jup σ a (.inl (.boolean, len, .inl (upd g i.toNatClampNeg (vp_nar .boolean x)))))) : jJ E cl nL M Q n cells slots pc lv (.inl x :: .inl i :: .inr (.inr (some (.inl a))) :: r) σ := by
  obtain ⟨hx, hb, -, -, -, ⟨hK, -⟩, -⟩ := X
  intro H locs ls hW hS hL
  have hP := hW.2 a ha (by rw [he]; simp only [jkn]; first | done | decide | assumption)
  rw [he] at hP
  obtain ⟨t0, ht0⟩ := jty_in (E := E) (t := .boolean) (by decide)
  refine W.zast hx hb hP ((hK.2 t0 _ ht0).1 len (fun j => .int (g j))) (fun q => by cases q) (by show ¬ (i < 0 ∨ (arrV _ _ _).slots.size ≤ _); rw [arrV_size]; exact hin) rfl rfl hd fun H1 e z oq => ?_
  refine k H1 _ ls (jW_set hW z oq ?_) (jS_put hS z oq) hL
  show H1[_]? = some (vp_cell _ _)
  rw [e]
  show some ((vp_cell _ (len, .inl g)).setSlot _ _) = _
  rw [vp_cell_i, vp_cell_i, arrV_store]
  congr 2
  funext q
  by_cases hq : q = i.toNatClampNeg
  · subst hq
    simp [updV, upd, vp_nar]
    try rfl
  · simp [updV, upd, hq]
theorem jk_cast (X : jX E own Ts cl tb nL ini cc M) {pc : Nat} (hd : decode cc pc = .ok (.castore, 1)) {lv : List (Option jv)} {r : List jv} {σ : Nat → jcell} {i x : Int32} {a len : Nat} {g : Nat → Int32} (ha : a < n) (he : σ a = .inl (.char, len, .inl g)) (hin : vp_in i len) (k : jJ E cl nL M Q n cells slots (pc + 1) lv r (jup σ a (.inl (.char, len, .inl (upd g i.toNatClampNeg (vp_nar .char x)))))) : jJ E cl nL M Q n cells slots pc lv (.inl x :: .inl i :: .inr (.inr (some (.inl a))) :: r) σ := by
  obtain ⟨hx, hb, -, -, -, ⟨hK, -⟩, -⟩ := X
  intro H locs ls hW hS hL
  have hP := hW.2 a ha (by rw [he]; simp only [jkn]; first | done | decide | assumption)
  rw [he] at hP
  obtain ⟨t0, ht0⟩ := jty_in (E := E) (t := .char) (by decide)
  refine W.cast hx hb hP ((hK.2 t0 _ ht0).1 len (fun j => .int (g j))) (fun q => by cases q) (by show ¬ (i < 0 ∨ (arrV _ _ _).slots.size ≤ _); rw [arrV_size]; exact hin) rfl rfl hd fun H1 e z oq => ?_
  refine k H1 _ ls (jW_set hW z oq ?_) (jS_put hS z oq) hL
  show H1[_]? = some (vp_cell _ _)
  rw [e]
  show some ((vp_cell _ (len, .inl g)).setSlot _ _) = _
  rw [vp_cell_i, vp_cell_i, arrV_store]
  congr 2
  funext q
  by_cases hq : q = i.toNatClampNeg
  · subst hq
    simp [updV, upd, vp_nar]
    try rfl
  · simp [updV, upd, hq]
theorem jk_lald (X : jX E own Ts cl tb nL ini cc M) {pc : Nat} (hd : decode cc pc = .ok (.laload, 1)) {lv : List (Option jv)} {r : List jv} {σ : Nat → jcell} {i : Int32} {a len : Nat} {g : Nat → Int64} (ha : a < n) (he : σ a = .inl (.long, len, .inr (.inl g))) (hin : vp_in i len) (k : jJ E cl nL M Q n cells slots (pc + 1) lv (.inr (.inl (g i.toNatClampNeg)) :: r) σ) : jJ E cl nL M Q n cells slots pc lv (.inl i :: .inr (.inr (some (.inl a))) :: r) σ := by
  obtain ⟨hx, hb, -, -, -, ⟨hK, -⟩, -⟩ := X
  intro H locs ls hW hS hL
  have hP := jW_one hW ha (by rw [he]; simp only [jkn]; first | done | decide | assumption)
  rw [he] at hP
  obtain ⟨t0, ht0⟩ := jty_in (E := E) (t := .long) (by decide)
  exact va_lald hx hb hK hP 0 t0 rfl ht0 hin hd (k H locs ls hW hS hL)
theorem jk_last (X : jX E own Ts cl tb nL ini cc M) {pc : Nat} (hd : decode cc pc = .ok (.lastore, 1)) {lv : List (Option jv)} {r : List jv} {σ : Nat → jcell} {i : Int32} {x : Int64} {a len : Nat} {g : Nat → Int64} (ha : a < n) (he : σ a = .inl (.long, len, .inr (.inl g))) (hin : vp_in i len) (k : jJ E cl nL M Q n cells slots (pc + 1) lv r (jup σ a (.inl (.long, len, .inr (.inl (vp_updL g i.toNatClampNeg x)))))) : jJ E cl nL M Q n cells slots pc lv (.inr (.inl x) :: .inl i :: .inr (.inr (some (.inl a))) :: r) σ := by
  obtain ⟨hx, hb, -, -, -, ⟨hK, -⟩, -⟩ := X
  intro H locs ls hW hS hL
  have hP := hW.2 a ha (by rw [he]; simp only [jkn]; first | done | decide | assumption)
  rw [he] at hP
  obtain ⟨t0, ht0⟩ := jty_in (E := E) (t := .long) (by decide)
  refine W.last hx hb hP ((hK.2 t0 _ ht0).1 len (fun j => .long (g j))) (fun q => by cases q) (by show ¬ (i < 0 ∨ (arrV _ _ _).slots.size ≤ _); rw [arrV_size]; exact hin) rfl rfl hd fun H1 e z oq => ?_
  refine k H1 _ ls (jW_set hW z oq ?_) (jS_put hS z oq) hL
  show H1[_]? = some (vp_cell _ _)
  rw [e]
  show some ((vp_cell _ (len, .inr (.inl g))).setSlot _ _) = _
  rw [vp_cell_l, vp_cell_l, arrV_store]
  congr 2
  funext q
  by_cases hq : q = i.toNatClampNeg
  · subst hq
    simp [updV, vp_updL]
  · simp [updV, vp_updL, hq]
theorem jk_alen (X : jX E own Ts cl tb nL ini cc M) {pc : Nat} (hd : decode cc pc = .ok (.arraylength, 1)) {lv : List (Option jv)} {r : List jv} {σ : Nat → jcell} {a : Nat} {t : FieldType} {y : vp_A} (ha : a < n) (he : σ a = .inl (t, y)) (ht : t ∈ jtys) (k : jJ E cl nL M Q n cells slots (pc + 1) lv (.inl (Int32.ofNat y.1) :: r) σ) : jJ E cl nL M Q n cells slots pc lv (.inr (.inr (some (.inl a))) :: r) σ := by
  obtain ⟨hx, hb, -, -, -, ⟨hK, -⟩, -⟩ := X
  intro H locs ls hW hS hL
  have hP := jW_one hW ha (by rw [he]; simp only [jkn]; first | done | decide | assumption)
  rw [he] at hP
  obtain ⟨t0, ht0⟩ := jty_in (E := E) ht
  exact va_alen hx hb hK hP 0 t0 rfl ht0 rfl hd (k H locs ls hW hS hL)
theorem jk_alenT (X : jX E own Ts cl tb nL ini cc M) {pc : Nat} (hd : decode cc pc = .ok (.arraylength, 1)) {lv : List (Option jv)} {r : List jv} {σ : Nat → jcell} {j len : Nat} {t : FieldType} {g : Nat → Int32} {s1 s2 s3 : String} (he : tb j = some (s1, s2, s3, t, len, g)) (k : jJ E cl nL M Q n cells slots (pc + 1) lv (.inl (Int32.ofNat len) :: r) σ) : jJ E cl nL M Q n cells slots pc lv (.inr (.inr (some (.inr j))) :: r) σ := by
  obtain ⟨hx, hb, -, -, -, ⟨-, hT, -⟩, -⟩ := X
  exact fun H locs ls hW hS hL => va_tlen hx hb (hT.1 j _ he).2 hS rfl hd (k H locs ls hW hS hL)
theorem jk_gets (X : jX E own Ts cl tb nL ini cc M) {pc i wi j : Nat} (hd : decode cc pc = .ok (.getstatic i, 3)) {lv : List (Option jv)} {r : List jv} {σ : Nat → jcell} {q : String × String × String × FieldType × Nat × (Nat → Int32)} (he : tb j = some q) (hw : Ts[wi]? = some (Jvm.Cond.fieldLink own i q.1 q.2.1 q.2.2.1)) (k : jJ E cl nL M Q n cells slots (pc + 3) lv (.inr (.inr (some (.inr j))) :: r) σ) : jJ E cl nL M Q n cells slots pc lv r σ := by
  obtain ⟨hx, hb, -, ho, hts, ⟨-, hT, -⟩, -⟩ := X
  exact fun H locs ls hW hS hL => va_gets hx hb (hT.1 j _ he).1 hS ho (hts _ (jTA_in hw rfl)) (fun _ h9 => h9) hd (k H locs ls hW hS hL)
theorem jk_get (hC : jCl Ts cl) (X : jX E own Ts cl tb nL ini cc M) {pc i wi ci f : Nat} (hd : decode cc pc = .ok (.getfield i, 3)) {q : vw_C} (hq : cl[ci]? = some q) (hf : f < q.2.2) (hw : jlk Ts wi own i (q.2.1 f).1 (q.2.1 f).2.1 (q.2.1 f).2.2.1 = true) {lv : List (Option jv)} {r : List jv} {σ : Nat → jcell} {a : Nat} {fs : List jv} {v : jv} (ha : a < n) (he : σ a = .inr (ci, fs)) (hv : fs[f]? = some v) (k : jJ E cl nL M Q n cells slots (pc + 3) lv (v :: r) σ) : jJ E cl nL M Q n cells slots pc lv (.inr (.inr (some (.inl a))) :: r) σ := by
  obtain ⟨hx, hb, -, ho, hts, ⟨hK, -, -, hN⟩, -⟩ := X
  intro H locs ls hW hS hL
  have hP := jW_one hW ha (by rw [he]; simp only [jkn]; first | done | decide | assumption)
  rw [he] at hP
  rcases jlk_or hw with h8 | ⟨host, h8⟩
  · exact va_get (C := q.1) (T := q.2.1) (N := q.2.2) hx hb hts (hC ci q hq).1 ho hK hP 0 rfl hq f hf (hts _ h8) (fun _ h9 => h9) (by rw [List.getElem?_map, hv]; rfl) hd (k H locs ls hW hS hL)
  · exact va_getN (C := q.1) (T := q.2.1) (N := q.2.2) (host := host) hx hb hts (hC ci q hq).1 ho hK hP 0 rfl hq f hf (va_Nw.use rfl (hN _ h8)) (fun _ h9 => h9) (by rw [List.getElem?_map, hv]; rfl) hd (k H locs ls hW hS hL)
theorem jk_put (hC : jCl Ts cl) (X : jX E own Ts cl tb nL ini cc M) {pc i wi ci f kd : Nat} (hd : decode cc pc = .ok (.putfield i, 3)) {q : vw_C} (hq : cl[ci]? = some q) (hf : f < q.2.2) (hw : jlk Ts wi own i (q.2.1 f).1 (q.2.1 f).2.1 (q.2.1 f).2.2.1 = true) (hfin : (q.2.1 f).2.2.2 = true → ini = true ∧ (q.2.1 f).1 = own ∧ Jvm.Cond.fieldLink own i (q.2.1 f).1 (q.2.1 f).2.1 (q.2.1 f).2.2.1 ∈ jTA Ts) (hkd : jkd (parseFieldDescriptor (q.2.1 f).2.2.1) = kd) {lv : List (Option jv)} {r : List jv} {σ : Nat → jcell} {a : Nat} {fs : List jv} {v : jv} (ha : a < n) (he : σ a = .inr (ci, fs)) (hl : f < fs.length) (hv : jfit kd v) (k : jJ E cl nL M Q n cells slots (pc + 3) lv r (jup σ a (.inr (ci, fs.set f v)))) : jJ E cl nL M Q n cells slots pc lv (v :: .inr (.inr (some (.inl a))) :: r) σ := by
  obtain ⟨hx, hb, -, ho, hts, ⟨hK, -, -, hN⟩, -, hini⟩ := X
  intro H locs ls hW hS hL
  obtain ⟨hin, ⟨ty0, hty⟩, hnm⟩ := hC ci q hq
  have hap := va_apart (own := own) hts hin ty0 hty hnm hK hq
  have hP := hW.2 a ha (by rw [he]; simp only [jkn]; first | done | decide | assumption)
  rw [he] at hP
  obtain ⟨r0, h1, cell, q1, q2, q3, q4⟩ := hP
  have hr : r0 = q := Option.some.inj (h1.symm.trans hq)
  subst hr
  obtain ⟨hSl, hfc, kC, hkC, hkind⟩ := hK.1 ci _ hq
  obtain ⟨cf, kf, fi, fd, hi, hsl⟩ := hSl f hf
  obtain ⟨ty, hpty, hnw, hft⟩ := jfit_n (E := E) hv hkd
  have hlay := hts _ (hin _ (u_in_lay hf))
  have hst := (u_facts hfc hkC (u_lays hts hin hf) hi).1
  have hlen : f < (fs.map (jc E)).length := by rw [List.length_map]; exact hl
  have hend : ∀ H' : Heap, H'[E.2.2.2 + a]? = some (cell.setSlot fd.slot (jc E v)) → H'.size = H.size → (∀ z, z ≠ E.2.2.2 + a → H'[z]? = H[z]?) → jW E cl (jup σ a (.inr (ci, fs.set f v))) n H' := by
    intro H' e1 e2 e3
    refine jW_set hW e2 e3 ⟨_, hq, ?_⟩
    rw [hsl] at e1
    refine t_OB.to (V := updV (vp_V (fs.map (jc E))) f (jc E v)) ⟨_, e1, q2, q3, t_set q4 hap hf _⟩ (fun j _ => ?_)
    rw [vp_updV_set hlen]
    show vp_V ((fs.map (jc E)).set f (jc E v)) j = vp_V ((fs.set f v).map (jc E)) j
    rw [List.map_set]
  by_cases hfn : (r0.2.1 f).2.2.2 = true
  · unfold u_lay at hlay
    rw [if_pos hfn] at hlay
    obtain ⟨hi1, hi2, h8⟩ := hfin hfn
    have hcf : M.2.2.2.2.2.1.cls = cf := by
      obtain ⟨_, _, c', _, _, _, -, -, hf', -, -, -, hown2, -⟩ := Cond.laysFinal_spec hlay
      have e1 : c' = cf := by have := hi.symm.trans hf'; simp at this; exact this.1.symm
      rw [hi2] at hown2
      rw [← e1]; exact Option.some.inj (ho.symm.trans hown2)
    have h6 := u_fits hfc hkC hkind (Or.inr hlay) hi hpty hnw hft
    exact W.putFinK hx hb ho (hts _ h8) hi hst hcf (hini hi1) (by rw [q2]; exact h6) q1 q3 (by rw [hsl]; exact k2_hasslot (q4 f hf)) rfl rfl hd fun H' e1 e2 e3 => k H' _ ls (hend H' e1 e2 e3) (jS_put hS e2 e3) hL
  · unfold u_lay at hlay
    rw [if_neg hfn] at hlay
    have h6 := u_store hfc hkC hkind hlay hi hpty hnw hft
    rcases jlk_or hw with h8 | ⟨host, h8⟩
    · exact W.putK hx hb (f := fd) ⟨ho, hts _ h8, ⟨_, _, _, hi⟩, hst⟩ (by rw [q2]; exact h6) q1 q3 (by rw [hsl]; exact k2_hasslot (q4 f hf)) rfl rfl hd fun H' e1 e2 e3 => k H' _ ls (hend H' e1 e2 e3) (jS_put hS e2 e3) hL
    · exact va_WputK hx hb (f := fd) ho (va_Nw.use rfl (hN _ h8)) hi hst (by rw [q2]; exact h6) q1 q3 (by rw [hsl]; exact k2_hasslot (q4 f hf)) rfl rfl hd fun H' e1 e2 e3 => k H' _ ls (hend H' e1 e2 e3) (jS_put hS e2 e3) hL
set_option maxHeartbeats 4000000 in
/-- one instruction: what 'jstep' asks is enough -/
theorem jstep_ok (hC : jCl Ts cl) (X : jX E own Ts cl tb nL ini cc M) {pc : Nat} {I : Instr} {ln : Nat} {py : jP} (hk : jok own Ts cl tb nL ini cc pc (I, ln, py) = true) {lv : List (Option jv)} {st : List jv} {σ : Nat → jcell} {nx lf : jN} (h : jstep tb n I ln py pc lv st σ nx lf)
    (hn : ∀ lv' st' σ', nx (pc + ln) lv' st' σ' → jJ E cl nL M Q n cells slots (pc + ln) lv' st' σ') (hl : ∀ pc' lv' st' σ', lf pc' lv' st' σ' → jJ E cl nL M Q n cells slots pc' lv' st' σ') : jJ E cl nL M Q n cells slots pc lv st σ := by
  unfold jok at hk
  rw [Bool.and_eq_true, decide_eq_true_eq] at hk
  obtain ⟨hd, hk⟩ := hk
  dsimp only at hd hk
  cases I
  case aconst_null =>
    simp only [jok1, Bool.and_eq_true, decide_eq_true_eq] at hk
    simp only [jstep] at h
    subst hk; exact jk_anull X hd (hn _ _ _ h)
  case iconst z =>
    simp only [jok1, Bool.and_eq_true, decide_eq_true_eq] at hk
    simp only [jstep] at h
    obtain ⟨rfl, hv⟩ := hk; exact jk_iconst X hd hv (hn _ _ _ h)
  case bipush z =>
    simp only [jok1, Bool.and_eq_true, decide_eq_true_eq] at hk
    simp only [jstep] at h
    obtain ⟨rfl, hv⟩ := hk; exact jk_bipush X hd hv (hn _ _ _ h)
  case sipush z =>
    simp only [jok1, Bool.and_eq_true, decide_eq_true_eq] at hk
    simp only [jstep] at h
    obtain ⟨rfl, hv⟩ := hk; exact jk_sipush X hd hv (hn _ _ _ h)
  case lconst z =>
    simp only [jok1, Bool.and_eq_true, decide_eq_true_eq] at hk
    simp only [jstep] at h
    obtain ⟨rfl, hv⟩ := hk; exact jk_lconst X hd hv (hn _ _ _ h)
  case ldc z =>
    simp only [jok1, Bool.and_eq_true, decide_eq_true_eq] at hk
    simp only [jstep] at h
    obtain ⟨rfl, hv⟩ := hk; exact jk_ldc X hd hv (hn _ _ _ h)
  case ldc2_w z =>
    simp only [jok1, Bool.and_eq_true, decide_eq_true_eq] at hk
    simp only [jstep] at h
    obtain ⟨rfl, hv⟩ := hk; exact jk_ldc2 X hd hv (hn _ _ _ h)
  case iload_n z =>
    simp only [jok1, Bool.and_eq_true, decide_eq_true_eq] at hk
    simp only [jstep] at h
    obtain ⟨rfl, hv⟩ := hk
    rw [← hv] at h
    unfold jldi at h
    split at h
    next hx => exact jk_iload_n X hd hx (hn _ _ _ h)
    next => exact h.elim
  case iload z =>
    simp only [jok1, Bool.and_eq_true, decide_eq_true_eq] at hk
    simp only [jstep] at h
    subst hk
    unfold jldi at h
    split at h
    next hx => exact jk_iload X hd hx (hn _ _ _ h)
    next => exact h.elim
  case lload_n z =>
    simp only [jok1, Bool.and_eq_true, decide_eq_true_eq] at hk
    simp only [jstep] at h
    obtain ⟨rfl, hv⟩ := hk
    rw [← hv] at h
    unfold jldl at h
    split at h
    next hx => exact jk_lload_n X hd hx (hn _ _ _ h)
    next => exact h.elim
  case lload z =>
    simp only [jok1, Bool.and_eq_true, decide_eq_true_eq] at hk
    simp only [jstep] at h
    subst hk
    unfold jldl at h
    split at h
    next hx => exact jk_lload X hd hx (hn _ _ _ h)
    next => exact h.elim
  case aload_n z =>
    simp only [jok1, Bool.and_eq_true, decide_eq_true_eq] at hk
    simp only [jstep] at h
    obtain ⟨rfl, hv⟩ := hk
    rw [← hv] at h
    unfold jlda at h
    split at h
    next hx => exact jk_aload_n X hd hx (hn _ _ _ h)
    next => exact h.elim
  case aload z =>
    simp only [jok1, Bool.and_eq_true, decide_eq_true_eq] at hk
    simp only [jstep] at h
    subst hk
    unfold jlda at h
    split at h
    next hx => exact jk_aload X hd hx (hn _ _ _ h)
    next => exact h.elim
  case istore_n z =>
    simp only [jok1, Bool.and_eq_true, decide_eq_true_eq] at hk
    simp only [jstep] at h
    obtain ⟨⟨rfl, hi⟩, hv⟩ := hk
    rw [← hv] at h
    unfold j1 at h
    split at h
    next => exact jk_istore_n X hd hi (hn _ _ _ h)
    next => exact h.elim
  case istore z =>
    simp only [jok1, Bool.and_eq_true, decide_eq_true_eq] at hk
    simp only [jstep] at h
    obtain ⟨rfl, hi⟩ := hk
    unfold j1 at h
    split at h
    next => exact jk_istore X hd hi (hn _ _ _ h)
    next => exact h.elim
  case lstore_n z =>
    simp only [jok1, Bool.and_eq_true, decide_eq_true_eq] at hk
    simp only [jstep] at h
    obtain ⟨⟨rfl, hi⟩, hv⟩ := hk
    rw [← hv] at h
    unfold jl1 at h
    split at h
    next => exact jk_lstore_n X hd hi (hn _ _ _ h)
    next => exact h.elim
  case lstore z =>
    simp only [jok1, Bool.and_eq_true, decide_eq_true_eq] at hk
    simp only [jstep] at h
    obtain ⟨rfl, hi⟩ := hk
    unfold jl1 at h
    split at h
    next => exact jk_lstore X hd hi (hn _ _ _ h)
    next => exact h.elim
  case astore_n z =>
    simp only [jok1, Bool.and_eq_true, decide_eq_true_eq] at hk
    simp only [jstep] at h
    obtain ⟨⟨rfl, hi⟩, hv⟩ := hk
    rw [← hv] at h
    unfold ja1 at h
    split at h
    next => exact jk_astore_n X hd hi (hn _ _ _ h)
    next => exact h.elim
  case astore z =>
    simp only [jok1, Bool.and_eq_true, decide_eq_true_eq] at hk
    simp only [jstep] at h
    obtain ⟨rfl, hi⟩ := hk
    unfold ja1 at h
    split at h
    next => exact jk_astore X hd hi (hn _ _ _ h)
    next => exact h.elim
  case iinc z w =>
    simp only [jok1, Bool.and_eq_true, decide_eq_true_eq] at hk
    simp only [jstep] at h
    obtain ⟨⟨rfl, hi⟩, hv⟩ := hk
    unfold jldi at h
    split at h
    next hx => exact jk_iinc X hd hi hv hx (hn _ _ _ h)
    next => exact h.elim
  case iadd =>
    simp only [jok1, Bool.and_eq_true, decide_eq_true_eq] at hk
    simp only [jstep] at h
    subst hk
    unfold j2 at h
    split at h
    next => exact jk_iadd X hd (hn _ _ _ h)
    next => exact h.elim
  case isub =>
    simp only [jok1, Bool.and_eq_true, decide_eq_true_eq] at hk
    simp only [jstep] at h
    subst hk
    unfold j2 at h
    split at h
    next => exact jk_isub X hd (hn _ _ _ h)
    next => exact h.elim
  case imul =>
    simp only [jok1, Bool.and_eq_true, decide_eq_true_eq] at hk
    simp only [jstep] at h
    subst hk
    unfold j2 at h
    split at h
    next => exact jk_imul X hd (hn _ _ _ h)
    next => exact h.elim
  case iand =>
    simp only [jok1, Bool.and_eq_true, decide_eq_true_eq] at hk
    simp only [jstep] at h
    subst hk
    unfold j2 at h
    split at h
    next => exact jk_iand X hd (hn _ _ _ h)
    next => exact h.elim
  case ior =>
    simp only [jok1, Bool.and_eq_true, decide_eq_true_eq] at hk
    simp only [jstep] at h
    subst hk
    unfold j2 at h
    split at h
    next => exact jk_ior X hd (hn _ _ _ h)
    next => exact h.elim
  case ixor =>
    simp only [jok1, Bool.and_eq_true, decide_eq_true_eq] at hk
    simp only [jstep] at h
    subst hk
    unfold j2 at h
    split at h
    next => exact jk_ixor X hd (hn _ _ _ h)
    next => exact h.elim
  case ishl =>
    simp only [jok1, Bool.and_eq_true, decide_eq_true_eq] at hk
    simp only [jstep] at h
    subst hk
    unfold j2 at h
    split at h
    next => exact jk_ishl X hd (hn _ _ _ h)
    next => exact h.elim
  case ishr =>
    simp only [jok1, Bool.and_eq_true, decide_eq_true_eq] at hk
    simp only [jstep] at h
    subst hk
    unfold j2 at h
    split at h
    next => exact jk_ishr X hd (hn _ _ _ h)
    next => exact h.elim
  case iushr =>
    simp only [jok1, Bool.and_eq_true, decide_eq_true_eq] at hk
    simp only [jstep] at h
    subst hk
    unfold j2 at h
    split at h
    next => exact jk_iushr X hd (hn _ _ _ h)
    next => exact h.elim
  case idiv =>
    simp only [jok1, Bool.and_eq_true, decide_eq_true_eq] at hk
    simp only [jstep] at h
    subst hk
    unfold j2 at h
    split at h
    next => exact jk_idiv X hd h.1 (hn _ _ _ h.2)
    next => exact h.elim
  case irem =>
    simp only [jok1, Bool.and_eq_true, decide_eq_true_eq] at hk
    simp only [jstep] at h
    subst hk
    unfold j2 at h
    split at h
    next => exact jk_irem X hd h.1 (hn _ _ _ h.2)
    next => exact h.elim
  case ineg =>
    simp only [jok1, Bool.and_eq_true, decide_eq_true_eq] at hk
    simp only [jstep] at h
    subst hk
    unfold j1 at h
    split at h
    next => exact jk_ineg X hd (hn _ _ _ h)
    next => exact h.elim
  case ladd =>
    simp only [jok1, Bool.and_eq_true, decide_eq_true_eq] at hk
    simp only [jstep] at h
    subst hk
    unfold jl2 at h
    split at h
    next => exact jk_ladd X hd (hn _ _ _ h)
    next => exact h.elim
  case lsub =>
    simp only [jok1, Bool.and_eq_true, decide_eq_true_eq] at hk
    simp only [jstep] at h
    subst hk
    unfold jl2 at h
    split at h
    next => exact jk_lsub X hd (hn _ _ _ h)
    next => exact h.elim
  case lmul =>
    simp only [jok1, Bool.and_eq_true, decide_eq_true_eq] at hk
    simp only [jstep] at h
    subst hk
    unfold jl2 at h
    split at h
    next => exact jk_lmul X hd (hn _ _ _ h)
    next => exact h.elim
  case land =>
    simp only [jok1, Bool.and_eq_true, decide_eq_true_eq] at hk
    simp only [jstep] at h
    subst hk
    unfold jl2 at h
    split at h
    next => exact jk_land X hd (hn _ _ _ h)
    next => exact h.elim
  case lor =>
    simp only [jok1, Bool.and_eq_true, decide_eq_true_eq] at hk
    simp only [jstep] at h
    subst hk
    unfold jl2 at h
    split at h
    next => exact jk_lor X hd (hn _ _ _ h)
    next => exact h.elim
  case lxor =>
    simp only [jok1, Bool.and_eq_true, decide_eq_true_eq] at hk
    simp only [jstep] at h
    subst hk
    unfold jl2 at h
    split at h
    next => exact jk_lxor X hd (hn _ _ _ h)
    next => exact h.elim
  case lcmp =>
    simp only [jok1, Bool.and_eq_true, decide_eq_true_eq] at hk
    simp only [jstep] at h
    subst hk
    unfold jl2 at h
    split at h
    next => exact jk_lcmp X hd (hn _ _ _ h)
    next => exact h.elim
  case ldiv =>
    simp only [jok1, Bool.and_eq_true, decide_eq_true_eq] at hk
    simp only [jstep] at h
    subst hk
    unfold jl2 at h
    split at h
    next => exact jk_ldiv X hd h.1 (hn _ _ _ h.2)
    next => exact h.elim
  case lrem =>
    simp only [jok1, Bool.and_eq_true, decide_eq_true_eq] at hk
    simp only [jstep] at h
    subst hk
    unfold jl2 at h
    split at h
    next => exact jk_lrem X hd h.1 (hn _ _ _ h.2)
    next => exact h.elim
  case lneg =>
    simp only [jok1, Bool.and_eq_true, decide_eq_true_eq] at hk
    simp only [jstep] at h
    subst hk
    unfold jl1 at h
    split at h
    next => exact jk_lneg X hd (hn _ _ _ h)
    next => exact h.elim
  case lshl =>
    simp only [jok1, Bool.and_eq_true, decide_eq_true_eq] at hk
    simp only [jstep] at h
    subst hk
    unfold jli at h
    split at h
    next => exact jk_lshl X hd (hn _ _ _ h)
    next => exact h.elim
  case lshr =>
    simp only [jok1, Bool.and_eq_true, decide_eq_true_eq] at hk
    simp only [jstep] at h
    subst hk
    unfold jli at h
    split at h
    next => exact jk_lshr X hd (hn _ _ _ h)
    next => exact h.elim
  case lushr =>
    simp only [jok1, Bool.and_eq_true, decide_eq_true_eq] at hk
    simp only [jstep] at h
    subst hk
    unfold jli at h
    split at h
    next => exact jk_lushr X hd (hn _ _ _ h)
    next => exact h.elim
  case i2l =>
    simp only [jok1, Bool.and_eq_true, decide_eq_true_eq] at hk
    simp only [jstep] at h
    subst hk
    unfold j1 at h
    split at h
    next => exact jk_i2l X hd (hn _ _ _ h)
    next => exact h.elim
  case i2b =>
    simp only [jok1, Bool.and_eq_true, decide_eq_true_eq] at hk
    simp only [jstep] at h
    subst hk
    unfold j1 at h
    split at h
    next => exact jk_i2b X hd (hn _ _ _ h)
    next => exact h.elim
  case i2c =>
    simp only [jok1, Bool.and_eq_true, decide_eq_true_eq] at hk
    simp only [jstep] at h
    subst hk
    unfold j1 at h
    split at h
    next => exact jk_i2c X hd (hn _ _ _ h)
    next => exact h.elim
  case l2i =>
    simp only [jok1, Bool.and_eq_true, decide_eq_true_eq] at hk
    simp only [jstep] at h
    subst hk
    unfold jl1 at h
    split at h
    next => exact jk_l2i X hd (hn _ _ _ h)
    next => exact h.elim
  case dup =>
    simp only [jok1, Bool.and_eq_true, decide_eq_true_eq] at hk
    simp only [jstep] at h
    subst hk
    unfold jdup at h
    split at h
    next => exact jk_dup X hd h.1 (hn _ _ _ h.2)
    next => exact h.elim
  case pop =>
    simp only [jok1, Bool.and_eq_true, decide_eq_true_eq] at hk
    simp only [jstep] at h
    subst hk
    unfold jdup at h
    split at h
    next => exact jk_pop X hd h.1 (hn _ _ _ h.2)
    next => exact h.elim
  case dup_x1 =>
    simp only [jok1, Bool.and_eq_true, decide_eq_true_eq] at hk
    simp only [jstep] at h
    subst hk
    unfold jdupx at h
    split at h
    next => exact jk_dup_x1 X hd h.1 h.2.1 (hn _ _ _ h.2.2)
    next => exact h.elim
  case dup_x2 =>
    simp only [jok1, Bool.and_eq_true, decide_eq_true_eq] at hk
    simp only [jstep] at h
    subst hk
    unfold jdupx2 at h
    split at h
    next => exact jk_dup_x2 X hd h.1 h.2.1 h.2.2.1 (hn _ _ _ h.2.2.2)
    next => exact h.elim
  case dup2 =>
    simp only [jok1, Bool.and_eq_true, decide_eq_true_eq] at hk
    simp only [jstep] at h
    subst hk
    unfold jdup2 at h
    split at h
    next => exact jk_dup2_2 X hd (hn _ _ _ h)
    next => exact jk_dup2_11 X hd h.1 h.2.1 (hn _ _ _ h.2.2)
    next => exact h.elim
  case ifCond z w =>
    simp only [jok1, Bool.and_eq_true, decide_eq_true_eq] at hk
    simp only [jstep] at h
    obtain ⟨rfl, ht⟩ := hk
    unfold j1 at h
    split at h
    next => exact jk_if X hd ht h (hl _ _ _ _) (hn _ _ _)
    next => exact h.elim
  case if_icmp z w =>
    simp only [jok1, Bool.and_eq_true, decide_eq_true_eq] at hk
    simp only [jstep] at h
    obtain ⟨rfl, ht⟩ := hk
    unfold j2 at h
    split at h
    next => exact jk_icmp X hd ht h (hl _ _ _ _) (hn _ _ _)
    next => exact h.elim
  case ifnull w =>
    simp only [jok1, Bool.and_eq_true, decide_eq_true_eq] at hk
    simp only [jstep] at h
    obtain ⟨rfl, ht⟩ := hk
    unfold ja1 at h
    split at h
    next => exact jk_ifnull X hd ht (fun q => hl _ _ _ _ (h.1 q)) (fun q => hn _ _ _ (h.2 q))
    next => exact h.elim
  case ifnonnull w =>
    simp only [jok1, Bool.and_eq_true, decide_eq_true_eq] at hk
    simp only [jstep] at h
    obtain ⟨rfl, ht⟩ := hk
    unfold ja1 at h
    split at h
    next => exact jk_ifnonnull X hd ht (fun q => hl _ _ _ _ (h.1 q)) (fun q => hn _ _ _ (h.2 q))
    next => exact h.elim
  case goto w =>
    simp only [jok1, Bool.and_eq_true, decide_eq_true_eq] at hk
    simp only [jstep] at h
    obtain ⟨rfl, ht⟩ := hk; exact jk_goto X hd ht (hl _ _ _ _ h)
  case iaload =>
    simp only [jok1, Bool.and_eq_true, decide_eq_true_eq] at hk
    simp only [jstep] at h
    subst hk
    unfold jald at h
    split at h
    next =>
      obtain ⟨ha, h⟩ := h
      split at h
      next he => obtain ⟨rfl, hin, h⟩ := h; exact jk_iald X hd ha he hin (hn _ _ _ h)
      next => exact h.elim
    next =>
      split at h
      next he => obtain ⟨rfl, hin, h⟩ := h; exact jk_ialdT X hd he hin (hn _ _ _ h)
      next => exact h.elim
    next => exact h.elim
  case caload =>
    simp only [jok1, Bool.and_eq_true, decide_eq_true_eq] at hk
    simp only [jstep] at h
    subst hk
    unfold jald at h
    split at h
    next =>
      obtain ⟨ha, h⟩ := h
      split at h
      next he => obtain ⟨rfl, hin, h⟩ := h; exact jk_cald X hd ha he hin (hn _ _ _ h)
      next => exact h.elim
    next =>
      split at h
      next he => obtain ⟨rfl, hin, h⟩ := h; exact jk_caldT X hd he hin (hn _ _ _ h)
      next => exact h.elim
    next => exact h.elim
  case baload =>
    simp only [jok1, Bool.and_eq_true, decide_eq_true_eq] at hk
    simp only [jstep] at h
    subst hk
    unfold jald at h
    split at h
    next =>
      obtain ⟨ha, h⟩ := h
      split at h
      next he =>
        obtain ⟨ht, hin, h⟩ := h
        split at ht
        · subst ht; exact jk_bald X hd ha he hin (hn _ _ _ h)
        · subst ht; exact jk_zald X hd ha he hin (hn _ _ _ h)
      next => exact h.elim
    next =>
      split at h
      next he =>
        obtain ⟨ht, hin, h⟩ := h
        split at ht
        · subst ht; exact jk_baldT X hd he hin (hn _ _ _ h)
        · subst ht; exact jk_zaldT X hd he hin (hn _ _ _ h)
      next => exact h.elim
    next => exact h.elim
  case laload =>
    simp only [jok1, Bool.and_eq_true, decide_eq_true_eq] at hk
    simp only [jstep] at h
    subst hk
    unfold jlald at h
    split at h
    next =>
      obtain ⟨ha, h⟩ := h
      split at h
      next he => obtain ⟨rfl, hin, h⟩ := h; exact jk_lald X hd ha he hin (hn _ _ _ h)
      next => exact h.elim
    next => exact h.elim
  case iastore =>
    simp only [jok1, Bool.and_eq_true, decide_eq_true_eq] at hk
    simp only [jstep] at h
    subst hk
    unfold jast at h
    split at h
    next =>
      obtain ⟨ha, h⟩ := h
      split at h
      next he => obtain ⟨rfl, hin, h⟩ := h; exact jk_iast X hd ha he hin (hn _ _ _ h)
      next => exact h.elim
    next => exact h.elim
  case castore =>
    simp only [jok1, Bool.and_eq_true, decide_eq_true_eq] at hk
    simp only [jstep] at h
    subst hk
    unfold jast at h
    split at h
    next =>
      obtain ⟨ha, h⟩ := h
      split at h
      next he => obtain ⟨rfl, hin, h⟩ := h; exact jk_cast X hd ha he hin (hn _ _ _ h)
      next => exact h.elim
    next => exact h.elim
  case bastore =>
    simp only [jok1, Bool.and_eq_true, decide_eq_true_eq] at hk
    simp only [jstep] at h
    subst hk
    unfold jast at h
    split at h
    next =>
      obtain ⟨ha, h⟩ := h
      split at h
      next he =>
        obtain ⟨ht, hin, h⟩ := h
        by_cases hz : py.1 = 0
        · rw [if_pos hz] at ht h; subst ht; exact jk_bast X hd ha he hin (hn _ _ _ h)
        · rw [if_neg hz] at ht h; subst ht; exact jk_zast X hd ha he hin (hn _ _ _ h)
      next => exact h.elim
    next => exact h.elim
  case lastore =>
    simp only [jok1, Bool.and_eq_true, decide_eq_true_eq] at hk
    simp only [jstep] at h
    subst hk
    unfold jlast at h
    split at h
    next =>
      obtain ⟨ha, h⟩ := h
      split at h
      next he => obtain ⟨rfl, hin, h⟩ := h; exact jk_last X hd ha he hin (hn _ _ _ h)
      next => exact h.elim
    next => exact h.elim
  case arraylength =>
    simp only [jok1, Bool.and_eq_true, decide_eq_true_eq] at hk
    simp only [jstep] at h
    subst hk
    unfold jalen at h
    split at h
    next =>
      obtain ⟨ha, h⟩ := h
      split at h
      next he => exact jk_alen X hd ha he h.1 (hn _ _ _ h.2)
      next => exact h.elim
    next =>
      split at h
      next he => exact jk_alenT X hd he (hn _ _ _ h)
      next => exact h.elim
    next => exact h.elim
  case getstatic i =>
    simp only [jok1, Bool.and_eq_true, decide_eq_true_eq] at hk
    simp only [jstep] at h
    obtain ⟨rfl, hs⟩ := hk
    unfold jokS at hs
    split at hs
    next he => exact jk_gets X hd he (of_decide_eq_true hs) (hn _ _ _ h)
    next => cases hs
  case getfield i =>
    simp only [jok1, Bool.and_eq_true, decide_eq_true_eq] at hk
    simp only [jstep] at h
    obtain ⟨rfl, hs⟩ := hk
    unfold jokF at hs
    split at hs
    next hq =>
      rw [Bool.and_eq_true, decide_eq_true_eq] at hs
      unfold jget at h
      split at h
      next =>
        obtain ⟨ha, h⟩ := h
        split at h
        next he =>
          obtain ⟨rfl, h⟩ := h
          split at h
          next hv => exact jk_get hC X hd hq hs.1 hs.2 ha he hv (hn _ _ _ h)
          next => exact h.elim
        next => exact h.elim
      next => exact h.elim
    next => cases hs
  case putfield i =>
    simp only [jok1, Bool.and_eq_true, decide_eq_true_eq] at hk
    simp only [jstep] at h
    obtain ⟨⟨rfl, hs⟩, hs2⟩ := hk
    unfold jokF at hs
    unfold jokW at hs2
    split at hs
    next q hq =>
      rw [Bool.and_eq_true, decide_eq_true_eq] at hs
      rw [hq] at hs2
      simp only [Bool.and_eq_true, decide_eq_true_eq, Bool.or_eq_true] at hs2
      unfold jput at h
      split at h
      next =>
        obtain ⟨ha, h⟩ := h
        split at h
        next he =>
          obtain ⟨rfl, hlt, hft, h⟩ := h
          exact jk_put hC X hd hq hs.1 hs.2 (fun hf => by
            rcases hs2.1 with h9 | h9
            · rw [hf] at h9; cases h9
            · exact ⟨h9.1.1, h9.1.2, jTA_in h9.2 rfl⟩) hs2.2 ha he hlt hft (hn _ _ _ h)
        next => exact h.elim
      next => exact h.elim
    next => cases hs
  all_goals exact False.elim h
/-- a row of instructions: what 'jrun' asks is enough -/
theorem jrun_ok (hC : jCl Ts cl) (X : jX E own Ts cl tb nL ini cc M) : ∀ (is : List jI) (pc : Nat) (lv : List (Option jv)) (st : List jv) (σ : Nat → jcell), jokL own Ts cl tb nL ini cc pc is = true → jrun tb n is pc lv st σ (jJ E cl nL M Q n cells slots) → jJ E cl nL M Q n cells slots pc lv st σ
  | [], _, _, _, _, _, h => h
  | i :: r, pc, lv, st, σ, hk, h => by
    have hk2 : jok own Ts cl tb nL ini cc pc i = true ∧ jokL own Ts cl tb nL ini cc (pc + i.2.1) r = true := by
      have h9 := hk
      unfold jokL at h9
      rwa [Bool.and_eq_true] at h9
    exact jstep_ok (I := i.1) (ln := i.2.1) (py := i.2.2) hC X hk2.1 h (fun lv' st' σ' h' => jrun_ok hC X r (pc + i.2.1) lv' st' σ' hk2.2 h') (fun _ _ _ _ h' => h')
end JST
end
section
/-! contracts over pictures -/
abbrev jPo : Type := Option jv → (Nat → jcell) → Nat → Prop
abbrev jY : Type := MethodName × ByteArray × Nat × Option FieldType
noncomputable def jPc (E : jE) (cl : List vw_C) (tb : jTb) (Ts : List Jvm.Cond) (vals : List jv) (σ : Nat → jcell) (n : Nat) : Array Value → State → Prop := fun v U => v = (vals.map (jc E)).toArray ∧ jW E cl σ n U.heap ∧ jK E cl tb Ts U
noncomputable def jQc (E : jE) (cl : List vw_C) (post : jPo) : Array Value → State → Outcome → State → Prop := fun _ s o t => (∃ (r : Option jv) (σ' : Nat → jcell) (n' : Nat), o = .returned (r.map (jc E)) ∧ post r σ' n' ∧ jW E cl σ' n' t.heap) ∧ va_F (jA E) s t
noncomputable def jws (Ts : List Jvm.Cond) (Y : jY) : List Jvm.Cond := Jvm.Cond.code Y.1 Y.2.1 Y.2.2.1 Y.2.2.2 :: jTA Ts
noncomputable def jMet (l : Launch) (E : jE) (cl : List vw_C) (tb : jTb) (Ts : List Jvm.Cond) (Y : jY) (rm : Room) (vals : List jv) (σ : Nat → jcell) (n : Nat) (post : jPo) : Prop := Met l Y.1 (jws Ts Y) rm (jPc E cl tb Ts vals σ n) (jQc E cl post) rm.cells rm.slots (jA E)
noncomputable def jQ (E : jE) (cl : List vw_C) (M : jM) (post : jPo) (mc ms : Nat) : State → Prop := MQ M.2.2.2.2.2.2.2.1 (jQc E cl post) M.2.2.2.2.2.2.1 M.2.2.2.2.1 mc ms (jA E)
noncomputable def jar : List jv → List (Option jv)
  | [] => []
  | v :: r => if jcat v = 2 then some v :: none :: jar r else some v :: jar r
noncomputable def jent (vals : List jv) (nL : Nat) : List (Option jv) := jar vals ++ List.replicate (nL - (jar vals).length) none
theorem jar_in {E : jE} : ∀ (vals : List jv) (i j : Nat) (v : jv), (jar vals)[j]? = some (some v) → (i + j, jc E v) ∈ lv_args i (vals.map (jc E))
  | [], _, _, _, h => by simp [jar] at h
  | w :: r, i, j, v, h => by
    unfold jar at h
    rw [List.map_cons]
    unfold lv_args
    rw [jc_cat]
    by_cases hc : jcat w = 2
    · rw [if_pos hc] at h
      rw [if_pos hc]
      match j, h with
      | 0, h => have hw : w = v := by simpa using h
                subst hw; exact List.mem_cons_self
      | 1, h => simp at h
      | j + 2, h =>
        have h1 := jar_in (E := E) r (i + 2) j v (by simpa using h)
        rw [show i + 2 + j = i + (j + 2) by omega] at h1
        exact List.mem_cons_of_mem _ h1
    · rw [if_neg hc] at h
      rw [if_neg hc]
      match j, h with
      | 0, h => have hw : w = v := by simpa using h
                subst hw; exact List.mem_cons_self
      | j + 1, h =>
        have h1 := jar_in (E := E) r (i + 1) j v (by simpa using h)
        rw [show i + 1 + j = i + (j + 1) by omega] at h1
        exact List.mem_cons_of_mem _ h1
theorem jent_at {vals : List jv} {nL i : Nat} {v : jv} (h : (jent vals nL)[i]? = some (some v)) : (jar vals)[i]? = some (some v) := by
  unfold jent at h
  by_cases hi : i < (jar vals).length
  · rwa [List.getElem?_append_left hi] at h
  · rw [List.getElem?_append_right (by omega)] at h
    rw [List.getElem?_replicate] at h
    split at h <;> simp at h
section JMT
variable {l : Launch} {E : jE} {cl : List vw_C} {tb : jTb} {Ts : List Jvm.Cond}
theorem jMet_of {Y : jY} {own nm ds : String} {cc : ByteArray} {nL : Nat} {ret : Option FieldType} {rm : Room} {vals : List jv} {σ : Nat → jcell} {n : Nat} {post : jPo} (hY : Y = (⟨own, nm, ds⟩, cc, nL, ret)) (ini : Bool) (hini : ini = true → nm = "<init>") (hy : plainName own = true) (hlen : (lg_sl (vals.map (jc E))).length ≤ nL) (lv0 : List (Option jv)) (hlv : jent vals nL = lv0)
    (body : ∀ M : jM, M.2.1 = l → M.2.2.2.1 = rm → jX E own Ts cl tb nL ini cc M → M.2.2.2.2.2.2.2.2.1.sig.returnType = ret → jJ E cl nL M (jQ E cl M post rm.cells rm.slots) n 0 0 0 lv0 [] σ) : jMet l E cl tb Ts Y rm vals σ n post := by
  subst hlv
  subst hY
  refine Met.ofW (cc := cc) (maxL := nL) (ret := ret) hy rfl ?_
  intro p e s m args below meth c s₁ B hml hv
  obtain ⟨rfl, hW, hK⟩ := hv
  have h := body (p, l, e, rm, s, m, (vals.map (jc E)).toArray, below, meth, c) rfl rfl
    ⟨B.exec, B.bytes, hml, findClass_of_methodNamed B.named, fun w hw => atoms_spec (ws := jws Ts (⟨own, nm, ds⟩, cc, nL, ret)) B.pre w (List.mem_cons_of_mem _ hw), hK, B.notSynchronized, fun hi => by
      have hn := (name_of_methodNamed B.named B.method).1
      rw [hn]
      exact hini hi⟩ B.returns
  have hl := lv_entry (vals.map (jc E)) (n := nL) hlen
  rw [lg_entry_eq]
  exact h s.heap [] _ hW va_S.rf ⟨hl.1, hl.2.1, fun i v hi => by
    have h1 := jar_in (E := E) vals 0 i v (jent_at hi)
    rw [Nat.zero_add] at h1
    exact hl.2.2 _ h1⟩
theorem jSt_go {U V : State} {H : Heap} (h : jSt E tb U) (hvm : U.vm.Alike V.vm) (hH : V.heap = H) (hq : ∀ a : Nat, a < U.heap.size → ¬ jA E a → H[a]? = U.heap[a]?) (hR : ∀ (own : String) (k : Nat) (tx : String) (a : Nat), vk_R own k tx a U → vk_R own k tx a V) : jSt E tb V := by
  subst hH
  refine ⟨fun j x hx => ?_, jSo_go h.2 hvm hq hR⟩
  obtain ⟨h1, h2⟩ := h.1 j x hx
  exact ⟨(h1.kept hq).moved hvm, (h2.kept hq).moved hvm⟩
theorem jNw_warm {w : Jvm.Cond} {s U : State} (hW : s.WarmedH U.vm) (hn : jnest w = true) (h : va_Nw w s) : va_Nw w U := by
  unfold jnest at hn
  split at hn
  · exact va_Nw.warmF hW h
  · exact va_Nw.warmM hW h
  · cases hn
theorem jnest_tb {w : Jvm.Cond} (hn : jnest w = true) : w.onTables = true := by
  unfold jnest at hn
  split at hn
  · rfl
  · rfl
  · cases hn
theorem jK_go {s U : State} {H : Heap} {locs : List Loc} (h : jK E cl tb Ts s) (hS : va_S (jA E) s.heap H locs) (hU : U.heap = H) (hW : s.WarmedH U.vm) : jK E cl tb Ts U := by
  obtain ⟨h1, h2, h3, h4⟩ := h
  refine ⟨h1.moved hW.alike, jSt_go h2 hW.alike hU (fun a ha hA => hS.2.1 a ha hA) (fun _ _ _ _ h9 => h9.warm hW), ?_, fun w hw => jNw_warm hW (List.mem_filter.mp hw).2 (h4 w hw)⟩
  rw [hU]
  exact Nat.le_trans h3 hS.1
theorem jPc_blind {vals : List jv} {σ : Nat → jcell} {n : Nat} : FrameBlind (jPc E cl tb Ts vals σ n) := by
  intro a U g mk ⟨q0, q1, q2, q3, q4, q5⟩
  refine ⟨q0, q1, va_K.moved (u := U) (U := U.calling g mk a) (Vm.Alike.refl U.vm) q2, jSt_go (U := U) (V := U.calling g mk a) (H := U.heap) q3 (Vm.Alike.refl U.vm) rfl (fun _ _ _ => rfl) (fun _ _ _ _ h9 => h9.same (u := U) (U := U.calling g mk a) rfl), q4, fun w hw => va_Nw.same (u := U) (U := U.calling g mk a) (jnest_tb (List.mem_filter.mp hw).2) rfl (q5 w hw)⟩
end JMT
section JAF
variable {p : Program} {l : Launch} {e : Env} {R : Room} {s : State} {m : MethodId} {args : Array Value} {below : List Frame} {meth : Method} {c : Code} {H : Heap} {locs : List Loc} {cells slots : Nat} {Q : State → Prop}
theorem jk_after {E : jE} {cl : List vw_C} {post : jPo} {pc mc ms : Nat} {ls : Array Slot} {rest st0 : List Value} {a : Array Value} (hr : va_Run p l e R s m args below meth c H locs cells slots mc ms (F0 m pc ls st0) rest (jQc E cl post a) (jA E)) (hS : va_S (jA E) s.heap H locs)
    (kk : ∀ (r : Option jv) (σ' : Nat → jcell) (n' : Nat), post r σ' n' → ∀ (H1 : Heap) (locs1 : List Loc), jW E cl σ' n' H1 → va_S (jA E) s.heap H1 locs1 → W p l e R s m args below meth c H1 locs1 (cells + mc) (slots + ms) Q (F0 m (pc + 3) ls ((r.map (jc E)).toList ++ rest))) : W p l e R s m args below meth c H locs cells slots Q (F0 m pc ls st0) := by
  intro T hT X
  obtain ⟨v, st₀, t, T', L, h0, X', hL, e1, e2, ⟨⟨r, σ', n', hv, hp, hb⟩, hz, hk⟩, st⟩ := hr T hT X
  have hv' : v = r.map (jc E) := Outcome.returned.inj hv
  subst hv'
  rw [h0] at hz hk
  obtain ⟨t2, a1, b1⟩ := kk r σ' n' hp T'.heap (locs ++ L) (by rw [e1]; exact hb)
    ⟨Nat.le_trans hS.1 (by rw [e1]; exact hz), fun q h1 h2 => by rw [e1, hk q (Nat.lt_of_lt_of_le h1 hS.1) h2]; exact hS.2.1 q h1 h2, fun q hq => by
      rcases List.mem_append.mp hq with h | h
      · exact hS.2.2 q h
      · exact hL q h⟩ T' rfl X'
  exact ⟨t2, st t2 a1, b1⟩
end JAF
/-- what the tables say of a method that is called -/
noncomputable def jmth (Ts : List Jvm.Cond) (Y : jY) (k : Nat) : Prop := Jvm.Cond.code Y.1 Y.2.1 Y.2.2.1 Y.2.2.2 ∈ jTA Ts ∧ Jvm.Cond.initialized Y.1.cls ∈ jTA Ts ∧ Y.1.cls ≠ "java/lang/invoke/MethodHandle" ∧ Y.1.cls ≠ "java/lang/invoke/VarHandle" ∧ (parseMethodDescriptor Y.1.desc).map (fun d => d.parameters.length) = some k
noncomputable def jlm (Ts : List Jvm.Cond) (wi : Nat) (own : String) (i : Nat) (y : MethodName) : Bool := match Ts[wi]? with
  | some (Jvm.Cond.methodLink a b c) => decide (a = own) && decide (b = i) && decide (c = y)
  | some (Jvm.Cond.methodLinkNest a b c _) => decide (a = own) && decide (b = i) && decide (c = y)
  | _ => false
theorem jlm_or {Ts : List Jvm.Cond} {wi : Nat} {own : String} {i : Nat} {y : MethodName} (h : jlm Ts wi own i y = true) : Jvm.Cond.methodLink own i y ∈ jTA Ts ∨ ∃ host, Jvm.Cond.methodLinkNest own i y host ∈ jNW Ts := by
  unfold jlm at h
  split at h
  next hw =>
    simp only [Bool.and_eq_true, decide_eq_true_eq] at h
    obtain ⟨⟨rfl, rfl⟩, rfl⟩ := h
    exact Or.inl (jTA_in hw rfl)
  next hw =>
    simp only [Bool.and_eq_true, decide_eq_true_eq] at h
    obtain ⟨⟨rfl, rfl⟩, rfl⟩ := h
    exact Or.inr ⟨_, List.mem_filter.mpr ⟨List.mem_of_getElem? hw, rfl⟩⟩
  next => cases h
theorem jgood_or {w : Jvm.Cond} (h : jgood w = true) : (w.onTables && w.keeps) = true ∨ ∃ ty, w = .arrayClass ty := by
  unfold jgood at h
  rw [Bool.or_eq_true] at h
  rcases h with h | h
  · exact Or.inl h
  · split at h
    next ty => exact Or.inr ⟨ty, rfl⟩
    next => cases h
theorem jws_in {Ts : List Jvm.Cond} {Y : jY} (h : Jvm.Cond.code Y.1 Y.2.1 Y.2.2.1 Y.2.2.2 ∈ jTA Ts) : GoodIn (jTA Ts) (jws Ts Y) := by
  intro w hw
  rcases List.mem_cons.mp hw with rfl | hw
  · exact ⟨h, jgood_or (List.mem_filter.mp h).2⟩
  · exact ⟨hw, jgood_or (List.mem_filter.mp hw).2⟩
section JCA
variable {E : jE} {own : String} {Ts : List Jvm.Cond} {cl : List vw_C} {tb : jTb} {nL : Nat} {ini : Bool} {cc : ByteArray} {M : jM} {Q : State → Prop} {n cells slots : Nat}
theorem jcat_sum (E : jE) (r : List jv) : ((r.map (jc E)).map fun v => v.category).sum = (r.map jcat).sum := by
  rw [List.map_map]
  congr 1
  exact List.map_congr_left fun v _ => jc_cat E v
/-- a static method is called -/
theorem jk_callS (X : jX E own Ts cl tb nL ini cc M) {rm rc : Room} (hR : M.2.2.2.1 = rm) {pc i wi k : Nat} {Y : jY} (hd : decode cc pc = .ok (.invokestatic i, 3)) (hw : jlm Ts wi own i Y.1 = true) (hm : jmth Ts Y k) (hst : Jvm.Cond.static Y.1 ∈ jTA Ts) {lv : List (Option jv)} {r vals : List jv} {σ : Nat → jcell} {post : jPo} (hM : jMet M.2.1 E cl tb Ts Y rc vals σ n post) {st : List jv} (hs : st = vals.reverse ++ r) (hk : vals.length = k)
    (hf : rc.frames + 1 ≤ rm.frames ∧ 8 + (Y.2.2.1 + 11) + rc.locals ≤ rm.locals) (hc : cells + rc.cells ≤ rm.cells ∧ slots + rc.slots ≤ rm.slots) (hz : (r.map jcat).sum ≤ 8)
    (kk : ∀ (v : Option jv) (σ' : Nat → jcell) (n' : Nat), post v σ' n' → jJ E cl nL M Q n' (cells + rc.cells) (slots + rc.slots) (pc + 3) lv (v.toList ++ r) σ') : jJ E cl nL M Q n cells slots pc lv st σ := by
  subst hs
  obtain ⟨p, l, e, R, s, m, args, below, meth, c⟩ := M
  dsimp only at hR
  subst hR
  have X0 := X
  obtain ⟨hx, hb, hml, ho, hts, hK, -, -⟩ := X
  obtain ⟨h1, h2, h3, h4, h5⟩ := hm
  intro H locs ls hW hS hL
  have hpre : PreS s H (jPc E cl tb Ts vals σ n) (vals.map (jc E)) := ⟨jPc_blind, fun U hU hWm => ⟨rfl, by rw [hU]; exact hW, jK_go hK hS hU hWm⟩⟩
  have hstk : ((vals.reverse ++ r).map (jc E)) = (vals.map (jc E)).reverse ++ r.map (jc E) := by rw [List.map_append, List.map_reverse]
  have hgo : ∀ (v : Option jv) (σ' : Nat → jcell) (n' : Nat), post v σ' n' → ∀ (H1 : Heap) (locs1 : List Loc), jW E cl σ' n' H1 → va_S (jA E) s.heap H1 locs1 → W p l e R s m args below meth c H1 locs1 (cells + rc.cells) (slots + rc.slots) Q (F0 m (pc + 3) ls ((v.map (jc E)).toList ++ r.map (jc E))) := by
    intro v σ' n' hp H1 locs1 hW1 hS1
    have h := kk v σ' n' hp H1 locs1 ls hW1 hS1 hL
    have e1 : (v.toList ++ r).map (jc E) = (v.map (jc E)).toList ++ r.map (jc E) := by cases v <;> simp
    rw [e1] at h
    exact h
  rcases jlm_or hw with h8 | ⟨host, h8⟩
  · refine jk_after (va_runS (As := vals.map (jc E)) (rest := r.map (jc E)) (Ts := jTA Ts) ⟨hx, hb, hml, ho, hts⟩ hM (callB_of k hts (jws_in h1) rfl rfl rfl (hts _ h2) (hts _ h8) ⟨h3, h4, h5⟩ hf |> fun q => ⟨q, hts _ hst⟩) hpre rfl (by rw [List.length_map]; exact hk) hL.1 hstk (lv_room (by rw [jcat_sum]; exact hz)) hd hc) hS hgo
  · refine jk_after (va_runSN (As := vals.map (jc E)) (rest := r.map (jc E)) (host := host) (Ts := jTA Ts) ⟨hx, hb, hml, ho, hts⟩ hM ⟨va_cnB k hts (jws_in h1) rfl rfl rfl (hK.2.2.2 _ h8) (hts _ h2) ⟨h3, h4, h5⟩ hf, hts _ hst, trivial⟩ hpre rfl (by rw [List.length_map]; exact hk) hL.1 hstk (lv_room (by rw [jcat_sum]; exact hz)) hd hc) hS hgo
/-- a method of an object of ours is called -/
theorem jk_callV (X : jX E own Ts cl tb nL ini cc M) {rm rc : Room} (hR : M.2.2.2.1 = rm) {pc i wi k ci a : Nat} {Y : jY} (hd : decode cc pc = .ok (.invokevirtual i, 3)) (hw : jlm Ts wi own i Y.1 = true) (hm : jmth Ts Y k) (hin : Jvm.Cond.instanceMethod Y.1 ∈ jTA Ts) (hse : Jvm.Cond.selects Y.1.cls Y.1 Y.1 ∈ jTA Ts) {q : vw_C} (hq : cl[ci]? = some q) (hqc : q.1 = Y.1.cls) {lv : List (Option jv)} {r vals : List jv} {σ : Nat → jcell} {fs : List jv} (ha : a < n) (he : σ a = .inr (ci, fs)) {post : jPo} (hM : jMet M.2.1 E cl tb Ts Y rc (.inr (.inr (some (.inl a))) :: vals) σ n post) {st : List jv} (hs : st = vals.reverse ++ .inr (.inr (some (.inl a))) :: r) (hk : vals.length = k)
    (hf : rc.frames + 1 ≤ rm.frames ∧ 8 + (Y.2.2.1 + 11) + rc.locals ≤ rm.locals) (hc : cells + rc.cells ≤ rm.cells ∧ slots + rc.slots ≤ rm.slots) (hz : (r.map jcat).sum ≤ 8)
    (kk : ∀ (v : Option jv) (σ' : Nat → jcell) (n' : Nat), post v σ' n' → jJ E cl nL M Q n' (cells + rc.cells) (slots + rc.slots) (pc + 3) lv (v.toList ++ r) σ') : jJ E cl nL M Q n cells slots pc lv st σ := by
  subst hs
  obtain ⟨p, l, e, R, s, m, args, below, meth, c⟩ := M
  dsimp only at hR
  subst hR
  obtain ⟨hx, hb, hml, ho, hts, hK, -, -⟩ := X
  obtain ⟨h1, h2, h3, h4, h5⟩ := hm
  intro H locs ls hW hS hL
  have hP1 := jW_one hW ha (by rw [he]; simp only [jkn]; first | done | decide | assumption)
  rw [he] at hP1
  obtain ⟨cellB, hcB, hoB, hclB⟩ := va_recv hK.1 hP1 hq (q0 := 0) rfl
  rw [hqc] at hclB
  have hpre : PreV s H Y.1.cls (E.2.2.2 + a) (jPc E cl tb Ts (.inr (.inr (some (.inl a))) :: vals) σ n) (vals.map (jc E)) := ⟨jPc_blind, ⟨cellB, hcB, hoB, hclB⟩, fun U hU hWm => ⟨rfl, by rw [hU]; exact hW, jK_go hK hS hU hWm⟩⟩
  have hstk : ((vals.reverse ++ .inr (.inr (some (.inl a))) :: r).map (jc E)) = (vals.map (jc E)).reverse ++ .ref (E.2.2.2 + a) :: r.map (jc E) := by rw [List.map_append, List.map_reverse]; rfl
  have hgo : ∀ (v : Option jv) (σ' : Nat → jcell) (n' : Nat), post v σ' n' → ∀ (H1 : Heap) (locs1 : List Loc), jW E cl σ' n' H1 → va_S (jA E) s.heap H1 locs1 → W p l e R s m args below meth c H1 locs1 (cells + rc.cells) (slots + rc.slots) Q (F0 m (pc + 3) ls ((v.map (jc E)).toList ++ r.map (jc E))) := by
    intro v σ' n' hp H1 locs1 hW1 hS1
    have h := kk v σ' n' hp H1 locs1 ls hW1 hS1 hL
    have e1 : (v.toList ++ r).map (jc E) = (v.map (jc E)).toList ++ r.map (jc E) := by cases v <;> simp
    rw [e1] at h
    exact h
  rcases jlm_or hw with h8 | ⟨host, h8⟩
  · refine jk_after (va_runV (C := Y.1.cls) (b := E.2.2.2 + a) (As := vals.map (jc E)) (rest := r.map (jc E)) (Ts := jTA Ts) ⟨hx, hb, hml, ho, hts⟩ hM ⟨callB_of k hts (jws_in h1) rfl rfl rfl (hts _ h2) (hts _ h8) ⟨h3, h4, h5⟩ hf, hts _ hin, hts _ hse⟩ hpre rfl (by rw [List.length_map]; exact hk) hL.1 hstk (lv_room (by rw [jcat_sum]; exact hz)) hd hc) hS hgo
  · refine jk_after (va_runVN (C := Y.1.cls) (b := E.2.2.2 + a) (As := vals.map (jc E)) (rest := r.map (jc E)) (host := host) (Ts := jTA Ts) ⟨hx, hb, hml, ho, hts⟩ hM ⟨va_cnB k hts (jws_in h1) rfl rfl rfl (hK.2.2.2 _ h8) (hts _ h2) ⟨h3, h4, h5⟩ hf, hts _ hin, hts _ hse⟩ hpre rfl (by rw [List.length_map]; exact hk) hL.1 hstk (lv_room (by rw [jcat_sum]; exact hz)) hd hc) hS hgo
/-- a constructor is called -/
theorem jk_callI (X : jX E own Ts cl tb nL ini cc M) {rm rc : Room} (hR : M.2.2.2.1 = rm) {pc i wi k a : Nat} {Y : jY} (hd : decode cc pc = .ok (.invokespecial i, 3)) (hw : jlm Ts wi own i Y.1 = true) (hm : jmth Ts Y k) (hin : Jvm.Cond.instanceMethod Y.1 ∈ jTA Ts) (hnm : Y.1.name = "<init>") (hret : Y.2.2.2 = none) {lv : List (Option jv)} {r vals : List jv} {σ : Nat → jcell} {post : jPo} (hM : jMet M.2.1 E cl tb Ts Y rc (.inr (.inr (some (.inl a))) :: vals) σ n post) {st : List jv} (hs : st = vals.reverse ++ .inr (.inr (some (.inl a))) :: r) (hk : vals.length = k)
    (hf : rc.frames + 1 ≤ rm.frames ∧ 8 + (Y.2.2.1 + 11) + rc.locals ≤ rm.locals) (hc : cells + rc.cells ≤ rm.cells ∧ slots + rc.slots ≤ rm.slots) (hz : (r.map jcat).sum ≤ 8)
    (kk : ∀ (v : Option jv) (σ' : Nat → jcell) (n' : Nat), post v σ' n' → jJ E cl nL M Q n' (cells + rc.cells) (slots + rc.slots) (pc + 3) lv (v.toList ++ r) σ') : jJ E cl nL M Q n cells slots pc lv st σ := by
  subst hs
  obtain ⟨p, l, e, R, s, m, args, below, meth, c⟩ := M
  dsimp only at hR
  subst hR
  obtain ⟨y, bytes, maxL, ret⟩ := Y
  dsimp only at hret hnm
  subst hret
  obtain ⟨hx, hb, hml, ho, hts, hK, -, -⟩ := X
  obtain ⟨h1, h2, h3, h4, h5⟩ := hm
  intro H locs ls hW hS hL
  have hpre : PreS s H (jPc E cl tb Ts (.inr (.inr (some (.inl a))) :: vals) σ n) (.ref (E.2.2.2 + a) :: vals.map (jc E)) := ⟨jPc_blind, fun U hU hWm => ⟨rfl, by rw [hU]; exact hW, jK_go hK hS hU hWm⟩⟩
  have hstk : ((vals.reverse ++ .inr (.inr (some (.inl a))) :: r).map (jc E)) = (vals.map (jc E)).reverse ++ .ref (E.2.2.2 + a) :: r.map (jc E) := by rw [List.map_append, List.map_reverse]; rfl
  have hgo : ∀ (v : Option jv) (σ' : Nat → jcell) (n' : Nat), post v σ' n' → ∀ (H1 : Heap) (locs1 : List Loc), jW E cl σ' n' H1 → va_S (jA E) s.heap H1 locs1 → W p l e R s m args below meth c H1 locs1 (cells + rc.cells) (slots + rc.slots) Q (F0 m (pc + 3) ls ((v.map (jc E)).toList ++ r.map (jc E))) := by
    intro v σ' n' hp H1 locs1 hW1 hS1
    have h := kk v σ' n' hp H1 locs1 ls hW1 hS1 hL
    have e1 : (v.toList ++ r).map (jc E) = (v.map (jc E)).toList ++ r.map (jc E) := by cases v <;> simp
    rw [e1] at h
    exact h
  rcases jlm_or hw with h8 | ⟨host, h8⟩
  · refine jk_after (va_runI (b := E.2.2.2 + a) (As := vals.map (jc E)) (rest := r.map (jc E)) (Ts := jTA Ts) ⟨hx, hb, hml, ho, hts⟩ hM ⟨callB_of k hts (jws_in h1) rfl rfl rfl (hts _ h2) (hts _ h8) ⟨h3, h4, h5⟩ hf, hnm, hts _ hin⟩ hpre rfl (by rw [List.length_map]; exact hk) hL.1 hstk (lv_room (by rw [jcat_sum]; exact hz)) hd hc) hS hgo
  · refine jk_after (va_runIN (b := E.2.2.2 + a) (As := vals.map (jc E)) (rest := r.map (jc E)) (host := host) (Ts := jTA Ts) ⟨hx, hb, hml, ho, hts⟩ hM ⟨va_cnB k hts (jws_in h1) rfl rfl rfl (hK.2.2.2 _ h8) (hts _ h2) ⟨h3, h4, h5⟩ hf, hnm, hts _ hin⟩ hpre rfl (by rw [List.length_map]; exact hk) hL.1 hstk (lv_room (by rw [jcat_sum]; exact hz)) hd hc) hS hgo
/-- Object() -/
theorem jk_objInit (X : jX E own Ts cl tb nL ini cc M) {rm : Room} (hR : M.2.2.2.1 = rm) {pc i w1 w2 w3 : Nat} (hd : decode cc pc = .ok (.invokespecial i, 3)) (h1 : Ts[w1]? = some (Jvm.Cond.methodLink own i Lib.objectInit)) (h2 : Ts[w2]? = some (Jvm.Cond.instanceMethod Lib.objectInit)) (h3 : Ts[w3]? = some (Jvm.Cond.code Lib.objectInit ⟨#[0xb1]⟩ 1 none)) {lv : List (Option jv)} {r : List jv} {σ : Nat → jcell} {a : Nat} (hf : 1 ≤ rm.frames) (hz : (r.map jcat).sum + 12 ≤ rm.locals)
    (kk : jJ E cl nL M Q n cells slots (pc + 3) lv r σ) : jJ E cl nL M Q n cells slots pc lv (.inr (.inr (some (.inl a))) :: r) σ := by
  obtain ⟨p, l, e, R, s, m, args, below, meth, c⟩ := M
  dsimp only at hR
  subst hR
  obtain ⟨hx, hb, hml, ho, hts, hK, -, -⟩ := X
  intro H locs ls hW hS hL
  refine W.objInit hx hb ho (hts _ (jTA_in h1 rfl)) (hts _ (jTA_in h2 rfl)) (hts _ (jTA_in h3 rfl)) rfl (by rw [hml]; exact hL.1) rfl hd hf ?_ (kk H locs ls hW hS hL)
  have e1 : (F0 m pc ls ((Sum.inr (Sum.inr (some (Sum.inl a))) :: r).map (jc E))).monitorRoom = 0 := rfl
  rw [e1, jcat_sum]
  dsimp only at hz ⊢
  omega
noncomputable def jdef (kd : Nat) : jv := match kd with
  | 2 => .inr (.inl 0)
  | 3 => .inr (.inr none)
  | _ => .inl 0
noncomputable def jnew (q : vw_C) : List jv := (List.range q.2.2).map fun j => jdef (jkd (parseFieldDescriptor (q.2.1 j).2.2.1))
theorem jdef_ok {E : jE} {t : FieldType} (h : jkd (some t) ≠ 9) : defaultValue t = jc E (jdef (jkd (some t))) := by
  cases t <;> first | rfl | exact absurd rfl h
/-- a new object -/
theorem jk_new (hC : jCl Ts cl) (X : jX E own Ts cl tb nL ini cc M) {rm : Room} (hR : M.2.2.2.1 = rm) {pc i w1 w2 w3 ci : Nat} (hd : decode cc pc = .ok (.new i, 3)) {q : vw_C} (hq : cl[ci]? = some q) (h1 : Ts[w1]? = some (Jvm.Cond.classLink own i q.1)) (h2 : Ts[w2]? = some (Jvm.Cond.instantiable q.1 q.2.2)) (h3 : Ts[w3]? = some (Jvm.Cond.initialized q.1)) (h9 : ((List.range q.2.2).all fun j => decide (jkd (parseFieldDescriptor (q.2.1 j).2.2.1) ≠ 9)) = true) {fs : List jv} (hfs : jnew q = fs) {lv : List (Option jv)} {r : List jv} {σ : Nat → jcell} (hc : cells + 1 ≤ rm.cells ∧ slots + q.2.2 ≤ rm.slots)
    (kk : jJ E cl nL M Q (n + 1) (cells + 1) (slots + q.2.2) (pc + 3) lv (.inr (.inr (some (.inl n))) :: r) (jup σ n (.inr (ci, fs)))) : jJ E cl nL M Q n cells slots pc lv r σ := by
  obtain ⟨p, l, e, R, s, m, args, below, meth, c⟩ := M
  dsimp only at hR
  subst hR
  obtain ⟨hx, hb, hml, ho, hts, hK, -, -⟩ := X
  intro H locs ls hW hS hL
  have hKn := hK.1.1 ci _ hq
  refine W.newcK hx hb ho (hts _ (jTA_in h1 rfl)) (hts _ (jTA_in h2 rfl)) (hts _ (jTA_in h3 rfl)) rfl hd hc.1 hc.2 hKn.2.1 hW.1 fun H1 kC hkC e1 z1 o1 => ?_
  refine kk H1 locs ls ⟨by omega, fun k hk hkk => ?_⟩ ⟨by have h7 := hS.1; have h8 := hW.1; dsimp only at h7 ⊢; omega, fun x q1 q2 => (o1 x (by have h7 := hS.1; have h8 := hW.1; dsimp only at h7 q1; omega)).trans (hS.2.1 x q1 q2), hS.2.2⟩ hL
  by_cases hkn : k = n
  · subst hkn
    rw [jup_s]
    obtain ⟨hin, ⟨ty, hty⟩, hnm⟩ := hC ci q hq
    refine ⟨_, hq, (u_born ty hts hin hKn hkC e1 hty).to fun j hj => ?_⟩
    subst hfs
    have hj9 := List.all_eq_true.mp h9 j (List.mem_range.mpr hj)
    rw [decide_eq_true_eq, hty j hj] at hj9
    rw [jdef_ok (E := E) hj9]
    show _ = vp_V ((jnew q).map (jc E)) j
    simp [vp_V, jnew, hj, hty j hj]
  · rw [jup_n hkn] at hkk ⊢
    exact (hW.2 k (by omega) hkk).kept (o1 _ (by show E.2.2.2 + k < _; omega))
noncomputable def jzero (t : ArrayType) (N : Nat) : vp_A := match t with
  | .long => (N, .inr (.inl fun _ => 0))
  | _ => (N, .inl fun _ => 0)
/-- a new array of numbers -/
theorem jk_newa (X : jX E own Ts cl tb nL ini cc M) {rm : Room} (hR : M.2.2.2.1 = rm) {pc w1 N : Nat} {at1 : ArrayType} (hd : decode cc pc = .ok (.newarray at1, 2)) (h1 : Ts[w1]? = some (Jvm.Cond.arrayClass (newarray.typeOf at1))) (hty : newarray.typeOf at1 ∈ jtys) {lv : List (Option jv)} {r : List jv} {σ : Nat → jcell} {k : Int32} (hk : ¬ k < 0) (hN : k.toNatClampNeg = N) (hby : N * 8 ≤ 536870912) (hc : cells + 1 ≤ rm.cells ∧ slots + N ≤ rm.slots)
    (kk : jJ E cl nL M Q (n + 1) (cells + 1) (slots + N) (pc + 2) lv (.inr (.inr (some (.inl n))) :: r) (jup σ n (.inl (newarray.typeOf at1, jzero at1 N)))) : jJ E cl nL M Q n cells slots pc lv (.inl k :: r) σ := by
  obtain ⟨p, l, e, R, s, m, args, below, meth, c⟩ := M
  dsimp only at hR
  subst hR
  obtain ⟨hx, hb, hml, ho, hts, hK, -, -⟩ := X
  intro H locs ls hW hS hL
  have hcb : componentBytes (newarray.typeOf at1) ≤ 8 := by cases at1 <;> decide
  refine va_newaK hx hb (hts _ (jTA_in h1 rfl)) rfl hd rfl hk hN (Nat.le_trans (Nat.mul_le_mul_left _ hcb) hby) hc.1 hc.2 hW.1 fun H1 cA e1 z1 o1 hAr hNm => ?_
  have hcA : cA = E.2.1 (newarray.typeOf at1) := by
    obtain ⟨t0, ht0⟩ := jty_in (E := E) hty
    have h5 := (hK.1.2 t0 _ ht0).2
    have h6 : s.vm.findClass ("[" ++ (newarray.typeOf at1).toString) = some (E.2.1 (newarray.typeOf at1)) := by
      cases at1 <;> exact h5
    exact Option.some.inj (hNm.symm.trans h6)
  refine kk H1 locs ls ⟨by omega, fun j hj hkk => ?_⟩ ⟨by have h7 := hS.1; have h8 := hW.1; dsimp only at h7 ⊢; omega, fun x q1 q2 => (o1 x (by have h7 := hS.1; have h8 := hW.1; dsimp only at h7 q1; omega)).trans (hS.2.1 x q1 q2), hS.2.2⟩ hL
  by_cases hjn : j = n
  · subst hjn
    rw [jup_s]
    show H1[_]? = some (vp_cell (E.2.1 (newarray.typeOf at1)) (jzero at1 N))
    rw [e1, hcA]
    cases at1 <;> first | rfl | exact absurd hty (by decide)
  · rw [jup_n hjn] at hkk ⊢
    exact (hW.2 j (by omega) hkk).kept (o1 _ (by show E.2.2.2 + j < _; omega))
/-- the ends of a method -/
theorem jk_vret (X : jX E own Ts cl tb nL ini cc M) {pc mc ms : Nat} (hd : decode cc pc = .ok (.return_, 1)) (hr : M.2.2.2.2.2.2.2.2.1.sig.returnType = none) {lv : List (Option jv)} {σ : Nat → jcell} {post : jPo} (hc : cells ≤ mc) (hs : slots ≤ ms) (hp : post none σ n) : jJ E cl nL M (jQ E cl M post mc ms) n cells slots pc lv [] σ := by
  obtain ⟨p, l, e, R, s, m, args, below, meth, c⟩ := M
  obtain ⟨hx, hb, hml, ho, hts, hK, hlk, -⟩ := X
  intro H locs ls hW hS hL
  exact W.widen hc hs (W.vret hx hb hr (fun t ht _ => ⟨⟨none, σ, n, rfl, hp, by rw [ht]; exact hW⟩, hS.F ht⟩) hS.2.2 hd hlk)
theorem jk_iret (X : jX E own Ts cl tb nL ini cc M) {pc mc ms : Nat} (hd : decode cc pc = .ok (.ireturn, 1)) {ty : FieldType} (hr : M.2.2.2.2.2.2.2.2.1.sig.returnType = some ty) {v : Int32} (hn : narrow ty (.int v) = .int v) {lv : List (Option jv)} {σ : Nat → jcell} {post : jPo} (hc : cells ≤ mc) (hs : slots ≤ ms) (hp : post (some (.inl v)) σ n) : jJ E cl nL M (jQ E cl M post mc ms) n cells slots pc lv [.inl v] σ := by
  obtain ⟨p, l, e, R, s, m, args, below, meth, c⟩ := M
  obtain ⟨hx, hb, hml, ho, hts, hK, hlk, -⟩ := X
  intro H locs ls hW hS hL
  exact W.widen hc hs (W.zret hx hb hr hn (fun t ht _ => ⟨⟨some (.inl v), σ, n, rfl, hp, by rw [ht]; exact hW⟩, hS.F ht⟩) hS.2.2 hd hlk)
theorem jk_lret (X : jX E own Ts cl tb nL ini cc M) {pc mc ms : Nat} (hd : decode cc pc = .ok (.lreturn, 1)) (hr : M.2.2.2.2.2.2.2.2.1.sig.returnType = some .long) {v : Int64} {lv : List (Option jv)} {σ : Nat → jcell} {post : jPo} (hc : cells ≤ mc) (hs : slots ≤ ms) (hp : post (some (.inr (.inl v))) σ n) : jJ E cl nL M (jQ E cl M post mc ms) n cells slots pc lv [.inr (.inl v)] σ := by
  obtain ⟨p, l, e, R, s, m, args, below, meth, c⟩ := M
  obtain ⟨hx, hb, hml, ho, hts, hK, hlk, -⟩ := X
  intro H locs ls hW hS hL
  exact W.widen hc hs (W.lret hx hb hr (fun t ht _ => ⟨⟨some (.inr (.inl v)), σ, n, rfl, hp, by rw [ht]; exact hW⟩, hS.F ht⟩) hS.2.2 hd hlk)
/-- weaker is enough -/
theorem jJ_widen {c2 s2 pc : Nat} {lv : List (Option jv)} {st : List jv} {σ : Nat → jcell} (hc : cells ≤ c2) (hs : slots ≤ s2) (h : jJ E cl nL M Q n c2 s2 pc lv st σ) : jJ E cl nL M Q n cells slots pc lv st σ := fun H locs ls hW hS hL => W.widen hc hs (h H locs ls hW hS hL)
end JCA
theorem jMet_post {l : Launch} {E : jE} {cl : List vw_C} {tb : jTb} {Ts : List Jvm.Cond} {Y : jY} {rm : Room} {vals : List jv} {σ : Nat → jcell} {n : Nat} {post post' : jPo} (h : jMet l E cl tb Ts Y rm vals σ n post) (hp : ∀ r σ' n', post r σ' n' → post' r σ' n') : jMet l E cl tb Ts Y rm vals σ n post' := by
  intro p e ha hc hk s m args below hf hs hP hK'
  obtain ⟨n', o, h1, h2, h3, ⟨⟨⟨r, σ', n2, q1, q2, q3⟩, q4⟩, q5⟩⟩ := h p e ha hc hk s m args below hf hs hP hK'
  exact ⟨n', o, h1, h2, h3, ⟨⟨⟨r, σ', n2, q1, hp _ _ _ q2, q3⟩, q4⟩, q5⟩⟩
end
section
/-! shorter rows for calls: an answer that is a number and leaves all as it was; and the general ones with their sums said -/
section JCB
variable {E : jE} {own : String} {Ts : List Jvm.Cond} {cl : List vw_C} {tb : jTb} {nL : Nat} {ini : Bool} {cc : ByteArray} {M : jM} {Q : State → Prop} {n cells slots : Nat}
/-- a call without an answer, or whose answer the post tells -/
theorem jk_Sg (X : jX E own Ts cl tb nL ini cc M) {rm rc : Room} (hR : M.2.2.2.1 = rm) {pc i wi k : Nat} {Y : jY} (hd : decode cc pc = .ok (.invokestatic i, 3)) (hw : jlm Ts wi own i Y.1 = true) (hm : jmth Ts Y k) (hst : Jvm.Cond.static Y.1 ∈ jTA Ts) {lv : List (Option jv)} {r vals : List jv} {σ : Nat → jcell} {post : jPo} (hM : jMet M.2.1 E cl tb Ts Y rc vals σ n post) {st : List jv} (hs : st = vals.reverse ++ r) (hk : vals.length = k)
    (hf : rc.frames + 1 ≤ rm.frames ∧ 8 + (Y.2.2.1 + 11) + rc.locals ≤ rm.locals) {c' s' : Nat} (hc' : cells + rc.cells = c') (hs' : slots + rc.slots = s') (hc : c' ≤ rm.cells ∧ s' ≤ rm.slots) (hz : (r.map jcat).sum ≤ 8) {pc' : Nat} (hp : pc + 3 = pc')
    (kk : ∀ (v : Option jv) (σ' : Nat → jcell) (n' : Nat), post v σ' n' → jJ E cl nL M Q n' c' s' pc' lv (v.toList ++ r) σ') : jJ E cl nL M Q n cells slots pc lv st σ := by
  subst hc'; subst hs'; subst hp
  exact jk_callS X hR hd hw hm hst hM hs hk hf hc hz kk
theorem jk_Vg (X : jX E own Ts cl tb nL ini cc M) {rm rc : Room} (hR : M.2.2.2.1 = rm) {pc i wi k ci a : Nat} {Y : jY} (hd : decode cc pc = .ok (.invokevirtual i, 3)) (hw : jlm Ts wi own i Y.1 = true) (hm : jmth Ts Y k) (hin : Jvm.Cond.instanceMethod Y.1 ∈ jTA Ts) (hse : Jvm.Cond.selects Y.1.cls Y.1 Y.1 ∈ jTA Ts) {q : vw_C} (hq : cl[ci]? = some q) (hqc : q.1 = Y.1.cls) {lv : List (Option jv)} {r vals : List jv} {σ : Nat → jcell} {fs : List jv} (ha : a < n) (he : σ a = .inr (ci, fs)) {post : jPo} (hM : jMet M.2.1 E cl tb Ts Y rc (.inr (.inr (some (.inl a))) :: vals) σ n post) {st : List jv} (hs : st = vals.reverse ++ .inr (.inr (some (.inl a))) :: r) (hk : vals.length = k)
    (hf : rc.frames + 1 ≤ rm.frames ∧ 8 + (Y.2.2.1 + 11) + rc.locals ≤ rm.locals) {c' s' : Nat} (hc' : cells + rc.cells = c') (hs' : slots + rc.slots = s') (hc : c' ≤ rm.cells ∧ s' ≤ rm.slots) (hz : (r.map jcat).sum ≤ 8) {pc' : Nat} (hp : pc + 3 = pc')
    (kk : ∀ (v : Option jv) (σ' : Nat → jcell) (n' : Nat), post v σ' n' → jJ E cl nL M Q n' c' s' pc' lv (v.toList ++ r) σ') : jJ E cl nL M Q n cells slots pc lv st σ := by
  subst hc'; subst hs'; subst hp
  exact jk_callV X hR hd hw hm hin hse hq hqc ha he hM hs hk hf hc hz kk
theorem jk_Ig (X : jX E own Ts cl tb nL ini cc M) {rm rc : Room} (hR : M.2.2.2.1 = rm) {pc i wi k a : Nat} {Y : jY} (hd : decode cc pc = .ok (.invokespecial i, 3)) (hw : jlm Ts wi own i Y.1 = true) (hm : jmth Ts Y k) (hin : Jvm.Cond.instanceMethod Y.1 ∈ jTA Ts) (hnm : Y.1.name = "<init>") (hret : Y.2.2.2 = none) {lv : List (Option jv)} {r vals : List jv} {σ : Nat → jcell} {post : jPo} (hM : jMet M.2.1 E cl tb Ts Y rc (.inr (.inr (some (.inl a))) :: vals) σ n post) {st : List jv} (hs : st = vals.reverse ++ .inr (.inr (some (.inl a))) :: r) (hk : vals.length = k)
    (hf : rc.frames + 1 ≤ rm.frames ∧ 8 + (Y.2.2.1 + 11) + rc.locals ≤ rm.locals) {c' s' : Nat} (hc' : cells + rc.cells = c') (hs' : slots + rc.slots = s') (hc : c' ≤ rm.cells ∧ s' ≤ rm.slots) (hz : (r.map jcat).sum ≤ 8) {pc' : Nat} (hp : pc + 3 = pc')
    (kk : ∀ (v : Option jv) (σ' : Nat → jcell) (n' : Nat), post v σ' n' → jJ E cl nL M Q n' c' s' pc' lv (v.toList ++ r) σ') : jJ E cl nL M Q n cells slots pc lv st σ := by
  subst hc'; subst hs'; subst hp
  exact jk_callI X hR hd hw hm hin hnm hret hM hs hk hf hc hz kk
theorem jk_oi (X : jX E own Ts cl tb nL ini cc M) {rm : Room} (hR : M.2.2.2.1 = rm) {pc i w1 w2 w3 : Nat} (hd : decode cc pc = .ok (.invokespecial i, 3)) (h1 : Ts[w1]? = some (Jvm.Cond.methodLink own i Lib.objectInit)) (h2 : Ts[w2]? = some (Jvm.Cond.instanceMethod Lib.objectInit)) (h3 : Ts[w3]? = some (Jvm.Cond.code Lib.objectInit ⟨#[0xb1]⟩ 1 none)) {lv : List (Option jv)} {r : List jv} {σ : Nat → jcell} {a : Nat} (hf : 1 ≤ rm.frames) (hz : (r.map jcat).sum + 12 ≤ rm.locals) {pc' : Nat} (hp : pc + 3 = pc')
    (kk : jJ E cl nL M Q n cells slots pc' lv r σ) : jJ E cl nL M Q n cells slots pc lv (.inr (.inr (some (.inl a))) :: r) σ := by
  subst hp
  exact jk_objInit X hR hd h1 h2 h3 hf hz kk
theorem jk_nw (hC : jCl Ts cl) (X : jX E own Ts cl tb nL ini cc M) {rm : Room} (hR : M.2.2.2.1 = rm) {pc i w1 w2 w3 ci : Nat} (hd : decode cc pc = .ok (.new i, 3)) {q : vw_C} (hq : cl[ci]? = some q) (h1 : Ts[w1]? = some (Jvm.Cond.classLink own i q.1)) (h2 : Ts[w2]? = some (Jvm.Cond.instantiable q.1 q.2.2)) (h3 : Ts[w3]? = some (Jvm.Cond.initialized q.1)) (h9 : ((List.range q.2.2).all fun j => decide (jkd (parseFieldDescriptor (q.2.1 j).2.2.1) ≠ 9)) = true) {fs : List jv} (hfs : jnew q = fs) {lv : List (Option jv)} {r : List jv} {σ : Nat → jcell} {n' c' s' : Nat} (hn' : n + 1 = n') (hc' : cells + 1 = c') (hs' : slots + q.2.2 = s') (hc : c' ≤ rm.cells ∧ s' ≤ rm.slots) {pc' : Nat} (hp : pc + 3 = pc')
    (kk : jJ E cl nL M Q n' c' s' pc' lv (.inr (.inr (some (.inl n))) :: r) (jup σ n (.inr (ci, fs)))) : jJ E cl nL M Q n cells slots pc lv r σ := by
  subst hn'; subst hc'; subst hs'; subst hp
  exact jk_new hC X hR hd hq h1 h2 h3 h9 hfs hc kk
theorem jk_na (X : jX E own Ts cl tb nL ini cc M) {rm : Room} (hR : M.2.2.2.1 = rm) {pc w1 : Nat} {at1 : ArrayType} (hd : decode cc pc = .ok (.newarray at1, 2)) {ty : FieldType} (hty : newarray.typeOf at1 = ty) (h1 : Ts[w1]? = some (Jvm.Cond.arrayClass ty)) (hin : ty ∈ jtys) {lv : List (Option jv)} {r : List jv} {σ : Nat → jcell} {k : Int32} (hk : ¬ k < 0) (N : Nat) (hN : k.toNatClampNeg = N) (hby : N * 8 ≤ 536870912) {z : vp_A} (hz : jzero at1 N = z) {n' c' s' : Nat} (hn' : n + 1 = n') (hc' : cells + 1 = c') (hs' : slots + N = s') (hc : c' ≤ rm.cells ∧ s' ≤ rm.slots) {pc' : Nat} (hp : pc + 2 = pc')
    (kk : jJ E cl nL M Q n' c' s' pc' lv (.inr (.inr (some (.inl n))) :: r) (jup σ n (.inl (ty, z)))) : jJ E cl nL M Q n cells slots pc lv (.inl k :: r) σ := by
  subst hn'; subst hc'; subst hs'; subst hp; subst hz; subst hty
  exact jk_newa X hR hd h1 hin hk hN hby hc kk
end JCB
end
section
/-! rules for static things: a text's constant, what a static holds, a field of a static object, a static row of references or bytes, a wide constant, a call on a static object -/
noncomputable def jSw (v : jSv) : jv := match v with
  | .inl x => .inl x
  | .inr j => .inr (.inr (some (.inr j)))
theorem jSw_c {E : jE} (v : jSv) : jc E (jSw v) = jSvv E.2.2.1 v := by cases v <;> rfl
section JKS
variable {E : jE} {own : String} {Ts : List Jvm.Cond} {cl : List vw_C} {tb : jTb} {nL : Nat} {ini : Bool} {cc : ByteArray} {M : jM} {Q : State → Prop} {n cells slots : Nat}
theorem jk_lds (X : jX E own Ts cl tb nL ini cc M) {pc i j : Nat} {tx : String} (hd : decode cc pc = .ok (.ldc i, 2)) (hm : (own, i, tx, j) ∈ js0.2.2.2.2) {lv : List (Option jv)} {r : List jv} {σ : Nat → jcell} (k : jJ E cl nL M Q n cells slots (pc + 2) lv (.inr (.inr (some (.inr j))) :: r) σ) : jJ E cl nL M Q n cells slots pc lv r σ := by
  obtain ⟨hx, hb, hml, ho, hts, ⟨hK, hSt, -⟩, -⟩ := X
  intro H locs ls hW hS hL
  exact va_ldcS hx hb ho (hSt.2.2.2.2.2.1 _ hm) hd (k H locs ls hW hS hL)
theorem jk_gsv (X : jX E own Ts cl tb nL ini cc M) {pc i : Nat} {q : String × String × String × jSv} (hd : decode cc pc = .ok (.getstatic i, 3)) (hm : q ∈ js0.2.1) (hw : Jvm.Cond.fieldLink own i q.1 q.2.1 q.2.2.1 ∈ jTA Ts) {lv : List (Option jv)} {r : List jv} {σ : Nat → jcell} (k : jJ E cl nL M Q n cells slots (pc + 3) lv (jSw q.2.2.2 :: r) σ) : jJ E cl nL M Q n cells slots pc lv r σ := by
  obtain ⟨hx, hb, hml, ho, hts, ⟨hK, hSt, -⟩, -⟩ := X
  intro H locs ls hW hS hL
  refine va_gets hx hb (hSt.2.2.1 _ hm) hS ho (hts _ hw) (fun _ h9 => h9) hd ?_
  have h := k H locs ls hW hS hL
  rw [List.map_cons, jSw_c] at h
  exact h
theorem jk_gfo (X : jX E own Ts cl tb nL ini cc M) {pc i : Nat} {o : Nat × String × List (String × String × String × jSv)} {f : String × String × String × jSv} (hd : decode cc pc = .ok (.getfield i, 3)) (ho1 : o ∈ js0.1) (hf : f ∈ o.2.2) (hw : Jvm.Cond.fieldLink own i f.1 f.2.1 f.2.2.1 ∈ jTA Ts) {lv : List (Option jv)} {r : List jv} {σ : Nat → jcell} (k : jJ E cl nL M Q n cells slots (pc + 3) lv (jSw f.2.2.2 :: r) σ) : jJ E cl nL M Q n cells slots pc lv (.inr (.inr (some (.inr o.1))) :: r) σ := by
  obtain ⟨hx, hb, hml, ho, hts, ⟨hK, hSt, -⟩, -⟩ := X
  intro H locs ls hW hS hL
  refine vk_getf hx hb ((hSt.2.1 _ ho1).2 f hf) hS ho (hts _ hw) (fun _ h9 => h9) hd ?_
  have h := k H locs ls hW hS hL
  rw [List.map_cons, jSw_c] at h
  exact h
theorem jk_aal (X : jX E own Ts cl tb nL ini cc M) {pc : Nat} {q : Nat × String × Nat × (Nat → Nat)} (hd : decode cc pc = .ok (.aaload, 1)) (hm : q ∈ js0.2.2.2.1) {i : Int32} (hin : vp_in i q.2.2.1) {lv : List (Option jv)} {r : List jv} {σ : Nat → jcell} (k : jJ E cl nL M Q n cells slots (pc + 1) lv (.inr (.inr (some (.inr (q.2.2.2 i.toNatClampNeg)))) :: r) σ) : jJ E cl nL M Q n cells slots pc lv (.inl i :: .inr (.inr (some (.inr q.1))) :: r) σ := by
  obtain ⟨hx, hb, hml, ho, hts, ⟨hK, hSt, -⟩, -⟩ := X
  intro H locs ls hW hS hL
  exact vb_tq hx hb (hSt.2.2.2.2.1 _ hm) hS hin rfl hd (k H locs ls hW hS hL)
theorem jk_bal (X : jX E own Ts cl tb nL ini cc M) {pc : Nat} {q : Nat × FieldType × Nat × (Nat → Int32)} (hd : decode cc pc = .ok (.baload, 1)) (hm : q ∈ js0.2.2.1) (hty : q.2.1 = .byte) {i : Int32} (hin : vp_in i q.2.2.1) {lv : List (Option jv)} {r : List jv} {σ : Nat → jcell} (k : jJ E cl nL M Q n cells slots (pc + 1) lv (.inl (q.2.2.2 i.toNatClampNeg) :: r) σ) : jJ E cl nL M Q n cells slots pc lv (.inl i :: .inr (.inr (some (.inr q.1))) :: r) σ := by
  obtain ⟨hx, hb, hml, ho, hts, ⟨hK, hSt, -⟩, -⟩ := X
  intro H locs ls hW hS hL
  have h := hSt.2.2.2.1 _ hm
  rw [hty] at h
  exact va_tb hx hb h hS hin rfl hd (k H locs ls hW hS hL)
theorem jk_aln (X : jX E own Ts cl tb nL ini cc M) {pc : Nat} {q : Nat × FieldType × Nat × (Nat → Int32)} (hd : decode cc pc = .ok (.arraylength, 1)) (hm : q ∈ js0.2.2.1) {lv : List (Option jv)} {r : List jv} {σ : Nat → jcell} (k : jJ E cl nL M Q n cells slots (pc + 1) lv (.inl (Int32.ofNat q.2.2.1) :: r) σ) : jJ E cl nL M Q n cells slots pc lv (.inr (.inr (some (.inr q.1))) :: r) σ := by
  obtain ⟨hx, hb, hml, ho, hts, ⟨hK, hSt, -⟩, -⟩ := X
  intro H locs ls hW hS hL
  exact va_tlen hx hb (hSt.2.2.2.1 _ hm) hS rfl hd (k H locs ls hW hS hL)
theorem jk_alr (X : jX E own Ts cl tb nL ini cc M) {pc : Nat} {q : Nat × String × Nat × (Nat → Nat)} (hd : decode cc pc = .ok (.arraylength, 1)) (hm : q ∈ js0.2.2.2.1) {lv : List (Option jv)} {r : List jv} {σ : Nat → jcell} (k : jJ E cl nL M Q n cells slots (pc + 1) lv (.inl (Int32.ofNat q.2.2.1) :: r) σ) : jJ E cl nL M Q n cells slots pc lv (.inr (.inr (some (.inr q.1))) :: r) σ := by
  obtain ⟨hx, hb, hml, ho, hts, ⟨hK, hSt, -⟩, -⟩ := X
  intro H locs ls hW hS hL
  exact va_tlen hx hb (hSt.2.2.2.2.1 _ hm) hS rfl hd (k H locs ls hW hS hL)
theorem jk_ldw (X : jX E own Ts cl tb nL ini cc M) {pc i : Nat} {v : Int32} (hd : decode cc pc = .ok (.ldc_w i, 3)) (hw : Jvm.Cond.constant own i v ∈ jTA Ts) {lv : List (Option jv)} {r : List jv} {σ : Nat → jcell} (k : jJ E cl nL M Q n cells slots (pc + 3) lv (.inl v :: r) σ) : jJ E cl nL M Q n cells slots pc lv r σ := by
  obtain ⟨hx, hb, hml, ho, hts, ⟨hK, hSt, -⟩, -⟩ := X
  intro H locs ls hW hS hL
  exact lv_ldcw hx hb ho (hts _ hw) hd (k H locs ls hW hS hL)
/-- a method of a static object is called -/
theorem jk_callVs (X : jX E own Ts cl tb nL ini cc M) {rm rc : Room} (hR : M.2.2.2.1 = rm) {pc i wi k : Nat} {Y : jY} (hd : decode cc pc = .ok (.invokevirtual i, 3)) (hw : jlm Ts wi own i Y.1 = true) (hm : jmth Ts Y k) (hin : Jvm.Cond.instanceMethod Y.1 ∈ jTA Ts) {C : String} (hse : Jvm.Cond.selects C Y.1 Y.1 ∈ jTA Ts) {o : Nat × String × List (String × String × String × jSv)} (ho1 : o ∈ js0.1) (hoc : o.2.1 = C) {lv : List (Option jv)} {r vals : List jv} {σ : Nat → jcell} {post : jPo} (hM : jMet M.2.1 E cl tb Ts Y rc (.inr (.inr (some (.inr o.1))) :: vals) σ n post) {st : List jv} (hs : st = vals.reverse ++ .inr (.inr (some (.inr o.1))) :: r) (hk : vals.length = k)
    (hf : rc.frames + 1 ≤ rm.frames ∧ 8 + (Y.2.2.1 + 11) + rc.locals ≤ rm.locals) (hc : cells + rc.cells ≤ rm.cells ∧ slots + rc.slots ≤ rm.slots) (hz : (r.map jcat).sum ≤ 8)
    (kk : ∀ (v : Option jv) (σ' : Nat → jcell) (n' : Nat), post v σ' n' → jJ E cl nL M Q n' (cells + rc.cells) (slots + rc.slots) (pc + 3) lv (v.toList ++ r) σ') : jJ E cl nL M Q n cells slots pc lv st σ := by
  subst hs
  obtain ⟨p, l, e, R, s, m, args, below, meth, c⟩ := M
  dsimp only at hR
  subst hR
  obtain ⟨hx, hb, hml, ho, hts, hK, -, -⟩ := X
  obtain ⟨h1, h2, h3, h4, h5⟩ := hm
  intro H locs ls hW hS hL
  obtain ⟨cellB, hcB, hoB, hclB, -⟩ := (hK.2.1.2.1 _ ho1).1.kept hS.2.1
  rw [hoc] at hclB
  have hpre : PreV s H C (E.2.2.1 o.1) (jPc E cl tb Ts (.inr (.inr (some (.inr o.1))) :: vals) σ n) (vals.map (jc E)) := ⟨jPc_blind, ⟨cellB, hcB, hoB, hclB⟩, fun U hU hWm => ⟨rfl, by rw [hU]; exact hW, jK_go hK hS hU hWm⟩⟩
  have hstk : ((vals.reverse ++ .inr (.inr (some (.inr o.1))) :: r).map (jc E)) = (vals.map (jc E)).reverse ++ .ref (E.2.2.1 o.1) :: r.map (jc E) := by rw [List.map_append, List.map_reverse]; rfl
  have hgo : ∀ (v : Option jv) (σ' : Nat → jcell) (n' : Nat), post v σ' n' → ∀ (H1 : Heap) (locs1 : List Loc), jW E cl σ' n' H1 → va_S (jA E) s.heap H1 locs1 → W p l e R s m args below meth c H1 locs1 (cells + rc.cells) (slots + rc.slots) Q (F0 m (pc + 3) ls ((v.map (jc E)).toList ++ r.map (jc E))) := by
    intro v σ' n' hp H1 locs1 hW1 hS1
    have h := kk v σ' n' hp H1 locs1 ls hW1 hS1 hL
    have e1 : (v.toList ++ r).map (jc E) = (v.map (jc E)).toList ++ r.map (jc E) := by cases v <;> simp
    rw [e1] at h
    exact h
  rcases jlm_or hw with h8 | ⟨host, h8⟩
  · refine jk_after (va_runV (C := C) (b := E.2.2.1 o.1) (As := vals.map (jc E)) (rest := r.map (jc E)) (Ts := jTA Ts) ⟨hx, hb, hml, ho, hts⟩ hM ⟨callB_of k hts (jws_in h1) rfl rfl rfl (hts _ h2) (hts _ h8) ⟨h3, h4, h5⟩ hf, hts _ hin, hts _ hse⟩ hpre rfl (by rw [List.length_map]; exact hk) hL.1 hstk (lv_room (by rw [jcat_sum]; exact hz)) hd hc) hS hgo
  · refine jk_after (va_runVN (C := C) (b := E.2.2.1 o.1) (As := vals.map (jc E)) (rest := r.map (jc E)) (host := host) (Ts := jTA Ts) ⟨hx, hb, hml, ho, hts⟩ hM ⟨va_cnB k hts (jws_in h1) rfl rfl rfl (hK.2.2.2 _ h8) (hts _ h2) ⟨h3, h4, h5⟩ hf, hts _ hin, hts _ hse⟩ hpre rfl (by rw [List.length_map]; exact hk) hL.1 hstk (lv_room (by rw [jcat_sum]; exact hz)) hd hc) hS hgo
end JKS
/-- the formatter is read: null, or the thing 5000 -/
theorem jk_gsf {E : jE} {own : String} {Ts : List Jvm.Cond} {cl : List vw_C} {tb : jTb} {nL : Nat} {ini : Bool} {cc : ByteArray} {M : jM} {Q : State → Prop} {n cells slots : Nat} (X : jX E own Ts cl tb nL ini cc M) {pc i : Nat} (hd : decode cc pc = .ok (.getstatic i, 3)) (hw : Jvm.Cond.fieldLink own i "jdk/internal/util/Preconditions" "SIOOBE_FORMATTER" "Ljava/util/function/BiFunction;" ∈ jTA Ts) {lv : List (Option jv)} {r : List jv} {σ : Nat → jcell} (k : ∀ v : jv, v = .inr (.inr none) ∨ v = .inr (.inr (some (.inr 5000))) → jJ E cl nL M Q n cells slots (pc + 3) lv (v :: r) σ) : jJ E cl nL M Q n cells slots pc lv r σ := by
  obtain ⟨hx, hb, hml, ho, hts, ⟨hK, hSt, -⟩, -⟩ := X
  intro H locs ls hW hS hL
  rcases hSt.2.2.2.2.2.2 with hz | hz
  · exact va_gets hx hb hz hS ho (hts _ hw) (fun _ h9 => h9) hd (k _ (Or.inl rfl) H locs ls hW hS hL)
  · exact va_gets hx hb hz hS ho (hts _ hw) (fun _ h9 => h9) hd (k _ (Or.inr rfl) H locs ls hW hS hL)
end
section
/-! names by program: classes, their fields, tables of constants -/
noncomputable def F_CH : u_T := fun k => match k with
  | 0 => ("ChessHouse", "tape", "[B", true)
  | 1 => ("ChessHouse", "answers", "LChessHouse$Bytes;", true)
  | 2 => ("ChessHouse", "words", "LChessHouse$Words;", true)
  | 3 => ("ChessHouse", "signs", "LChessHouse$Signs;", true)
  | 4 => ("ChessHouse", "reader", "LChessHouse$GameReader;", true)
  | 5 => ("ChessHouse", "writer", "LChessHouse$GameWriter;", true)
  | 6 => ("ChessHouse", "search", "LChessHouse$Search;", true)
  | 7 => ("ChessHouse", "problems", "LChessHouse$Problems;", true)
  | 8 => ("ChessHouse", "endings", "LChessHouse$Endings;", true)
  | 9 => ("ChessHouse", "list", "[I", true)
  | 10 => ("ChessHouse", "game", "LChessHouse$Game;", false)
  | 11 => ("ChessHouse", "spare", "LChessHouse$Game;", false)
  | 12 => ("ChessHouse", "fed", "I", false)
  | 13 => ("ChessHouse", "next", "I", false)
  | _ => ("ChessHouse", "faults", "I", false)
noncomputable def F_BY : u_T := fun k => match k with
  | 0 => ("ChessHouse$Bytes", "data", "[B", true)
  | _ => ("ChessHouse$Bytes", "length", "I", false)
noncomputable def F_WO : u_T := fun k => match k with
  | 0 => ("ChessHouse$Words", "begin", "[I", true)
  | 1 => ("ChessHouse$Words", "count", "I", false)
  | 2 => ("ChessHouse$Words", "stop", "I", false)
  | 3 => ("ChessHouse$Words", "tape", "[B", false)
  | _ => ("ChessHouse$Words", "start", "I", false)
noncomputable def F_SI : u_T := fun k => match k with
  | 0 => ("ChessHouse$Signs", "list", "[I", true)
  | 1 => ("ChessHouse$Signs", "row", "[I", true)
  | 2 => ("ChessHouse$Signs", "length", "I", false)
  | 3 => ("ChessHouse$Signs", "kind", "I", false)
  | 4 => ("ChessHouse$Signs", "file", "I", false)
  | 5 => ("ChessHouse$Signs", "rank", "I", false)
  | 6 => ("ChessHouse$Signs", "to", "I", false)
  | 7 => ("ChessHouse$Signs", "become", "I", false)
  | 8 => ("ChessHouse$Signs", "castling", "I", false)
  | 9 => ("ChessHouse$Signs", "takes", "Z", false)
  | _ => ("ChessHouse$Signs", "check", "I", false)
noncomputable def F_GR : u_T := fun k => match k with
  | 0 => ("ChessHouse$GameReader", "place", "I", false)
  | 1 => ("ChessHouse$GameReader", "signs", "LChessHouse$Signs;", true)
  | 2 => ("ChessHouse$GameReader", "outer", "[I", true)
  | 3 => ("ChessHouse$GameReader", "value", "[B", true)
  | 4 => ("ChessHouse$GameReader", "game", "LChessHouse$Game;", false)
  | 5 => ("ChessHouse$GameReader", "text", "[B", false)
  | 6 => ("ChessHouse$GameReader", "begin", "I", false)
  | 7 => ("ChessHouse$GameReader", "stop", "I", false)
  | 8 => ("ChessHouse$GameReader", "at", "I", false)
  | 9 => ("ChessHouse$GameReader", "fault", "I", false)
  | 10 => ("ChessHouse$GameReader", "stage", "I", false)
  | _ => ("ChessHouse$GameReader", "open", "I", false)
noncomputable def F_GW : u_T := fun k => match k with
  | 0 => ("ChessHouse$GameWriter", "text", "LChessHouse$Bytes;", true)
  | 1 => ("ChessHouse$GameWriter", "signs", "LChessHouse$Signs;", true)
  | _ => ("ChessHouse$GameWriter", "game", "LChessHouse$Game;", false)
noncomputable def F_SE : u_T := fun k => match k with
  | 0 => ("ChessHouse$Search", "bestMove", "I", false)
  | 1 => ("ChessHouse$Search", "list", "[I", true)
  | 2 => ("ChessHouse$Search", "made", "[I", true)
  | 3 => ("ChessHouse$Search", "undone", "[J", true)
  | 4 => ("ChessHouse$Search", "depth", "I", false)
  | 5 => ("ChessHouse$Search", "board", "LChessHouse$Board;", false)
  | _ => ("ChessHouse$Search", "calm", "Z", false)
noncomputable def F_PR : u_T := fun k => match k with
  | 0 => ("ChessHouse$Problems", "self", "Z", false)
  | 1 => ("ChessHouse$Problems", "wanted", "I", false)
  | 2 => ("ChessHouse$Problems", "lines", "I", false)
  | 3 => ("ChessHouse$Problems", "found", "Z", false)
  | 4 => ("ChessHouse$Problems", "chain", "[I", true)
  | 5 => ("ChessHouse$Problems", "undo", "[J", true)
  | 6 => ("ChessHouse$Problems", "list", "[I", true)
  | 7 => ("ChessHouse$Problems", "board", "LChessHouse$Board;", false)
  | 8 => ("ChessHouse$Problems", "mate", "Z", false)
  | _ => ("ChessHouse$Problems", "asked", "I", false)
noncomputable def F_EN : u_T := fun k => match k with
  | 0 => ("ChessHouse$Endings", "distance", "I", false)
  | 1 => ("ChessHouse$Endings", "bestMove", "I", false)
  | 2 => ("ChessHouse$Endings", "list", "[I", true)
  | 3 => ("ChessHouse$Endings", "queens", "[B", false)
  | 4 => ("ChessHouse$Endings", "rooks", "[B", false)
  | 5 => ("ChessHouse$Endings", "pawns", "[B", false)
  | 6 => ("ChessHouse$Endings", "table", "[B", false)
  | 7 => ("ChessHouse$Endings", "queue", "[I", false)
  | 8 => ("ChessHouse$Endings", "tail", "I", false)
  | _ => ("ChessHouse$Endings", "kind", "I", false)
noncomputable def F_GA : u_T := fun k => match k with
  | 0 => ("ChessHouse$Game", "board", "LChessHouse$Board;", true)
  | 1 => ("ChessHouse$Game", "nodes", "I", false)
  | 2 => ("ChessHouse$Game", "here", "I", false)
  | 3 => ("ChessHouse$Game", "parent", "[I", true)
  | 4 => ("ChessHouse$Game", "move", "[I", true)
  | 5 => ("ChessHouse$Game", "first", "[I", true)
  | 6 => ("ChessHouse$Game", "after", "[I", true)
  | 7 => ("ChessHouse$Game", "undo", "[J", true)
  | 8 => ("ChessHouse$Game", "marks", "[I", true)
  | 9 => ("ChessHouse$Game", "marked", "[I", true)
  | 10 => ("ChessHouse$Game", "remarks", "[B", true)
  | 11 => ("ChessHouse$Game", "remarkLength", "[I", true)
  | 12 => ("ChessHouse$Game", "path", "[I", true)
  | 13 => ("ChessHouse$Game", "tags", "I", false)
  | 14 => ("ChessHouse$Game", "names", "[B", true)
  | 15 => ("ChessHouse$Game", "nameLength", "[I", true)
  | 16 => ("ChessHouse$Game", "values", "[B", true)
  | 17 => ("ChessHouse$Game", "valueLength", "[I", true)
  | _ => ("ChessHouse$Game", "result", "I", false)
noncomputable def F_BO : u_T := fun k => match k with
  | 0 => ("ChessHouse$Board", "men", "[I", true)
  | 1 => ("ChessHouse$Board", "king", "[I", true)
  | 2 => ("ChessHouse$Board", "side", "I", false)
  | 3 => ("ChessHouse$Board", "rights", "I", false)
  | 4 => ("ChessHouse$Board", "passed", "I", false)
  | 5 => ("ChessHouse$Board", "clock", "I", false)
  | 6 => ("ChessHouse$Board", "number", "I", false)
  | 7 => ("ChessHouse$Board", "packed", "[J", true)
  | 8 => ("ChessHouse$Board", "worth", "[I", true)
  | 9 => ("ChessHouse$Board", "count", "[I", true)
  | 10 => ("ChessHouse$Board", "shades", "[I", true)
  | 11 => ("ChessHouse$Board", "worthAt", "[I", true)
  | 12 => ("ChessHouse$Board", "reach", "[I", true)
  | 13 => ("ChessHouse$Board", "hops", "[I", true)
  | 14 => ("ChessHouse$Board", "past", "[J", true)
  | 15 => ("ChessHouse$Board", "pastRest", "[I", true)
  | _ => ("ChessHouse$Board", "plies", "I", false)
noncomputable def F_MM : u_T := fun k => match k with
  | 0 => ("ChessHouseModel", "thrown", "I", false)
  | 1 => ("ChessHouseModel", "taped", "I", false)
  | 2 => ("ChessHouseModel", "tape", "[B", true)
  | 3 => ("ChessHouseModel", "told", "I", false)
  | 4 => ("ChessHouseModel", "out", "[B", true)
  | 5 => ("ChessHouseModel", "texts", "LChessHouseModel$Texts;", true)
  | 6 => ("ChessHouseModel", "board", "LChessHouseModel$Board;", true)
  | 7 => ("ChessHouseModel", "endings", "LChessHouseModel$Ends;", false)
  | 8 => ("ChessHouseModel", "from", "I", false)
  | 9 => ("ChessHouseModel", "to", "I", false)
  | 10 => ("ChessHouseModel", "next", "I", false)
  | 11 => ("ChessHouseModel", "all", "I", false)
  | 12 => ("ChessHouseModel", "faults", "I", false)
  | 13 => ("ChessHouseModel", "words", "I", false)
  | 14 => ("ChessHouseModel", "wordFrom", "[I", true)
  | 15 => ("ChessHouseModel", "wordTo", "[I", true)
  | 16 => ("ChessHouseModel", "right", "Z", false)
  | 17 => ("ChessHouseModel", "path", "[I", true)
  | _ => ("ChessHouseModel", "line", "[C", true)
noncomputable def F_MT : u_T := fun k => match k with
  | 0 => ("ChessHouseModel$Texts", "thrown", "I", false)
  | 1 => ("ChessHouseModel$Texts", "typed", "I", false)
  | 2 => ("ChessHouseModel$Texts", "text", "[C", true)
  | 3 => ("ChessHouseModel$Texts", "told", "I", false)
  | 4 => ("ChessHouseModel$Texts", "out", "[C", true)
  | 5 => ("ChessHouseModel$Texts", "game", "I", false)
  | 6 => ("ChessHouseModel$Texts", "here", "I", false)
  | 7 => ("ChessHouseModel$Texts", "count", "[I", true)
  | 8 => ("ChessHouseModel$Texts", "parent", "[I", true)
  | 9 => ("ChessHouseModel$Texts", "moveOf", "[I", true)
  | 10 => ("ChessHouseModel$Texts", "child", "[I", true)
  | 11 => ("ChessHouseModel$Texts", "next", "[I", true)
  | 12 => ("ChessHouseModel$Texts", "markCount", "[I", true)
  | 13 => ("ChessHouseModel$Texts", "marks", "[I", true)
  | 14 => ("ChessHouseModel$Texts", "remarkSize", "[I", true)
  | 15 => ("ChessHouseModel$Texts", "remarks", "[C", true)
  | 16 => ("ChessHouseModel$Texts", "startMen", "[I", true)
  | 17 => ("ChessHouseModel$Texts", "startRest", "[I", true)
  | 18 => ("ChessHouseModel$Texts", "tagCount", "[I", true)
  | 19 => ("ChessHouseModel$Texts", "nameSize", "[I", true)
  | 20 => ("ChessHouseModel$Texts", "names", "[C", true)
  | 21 => ("ChessHouseModel$Texts", "valueSize", "[I", true)
  | 22 => ("ChessHouseModel$Texts", "values", "[C", true)
  | 23 => ("ChessHouseModel$Texts", "results", "[I", true)
  | 24 => ("ChessHouseModel$Texts", "men", "[I", true)
  | 25 => ("ChessHouseModel$Texts", "side", "I", false)
  | 26 => ("ChessHouseModel$Texts", "rights", "I", false)
  | 27 => ("ChessHouseModel$Texts", "passed", "I", false)
  | 28 => ("ChessHouseModel$Texts", "clock", "I", false)
  | 29 => ("ChessHouseModel$Texts", "number", "I", false)
  | 30 => ("ChessHouseModel$Texts", "keptMen", "[I", true)
  | 31 => ("ChessHouseModel$Texts", "keptRest", "[I", true)
  | 32 => ("ChessHouseModel$Texts", "list", "[I", true)
  | 33 => ("ChessHouseModel$Texts", "moves", "I", false)
  | 34 => ("ChessHouseModel$Texts", "path", "[I", true)
  | 35 => ("ChessHouseModel$Texts", "spelled", "[C", true)
  | 36 => ("ChessHouseModel$Texts", "spelledSize", "I", false)
  | 37 => ("ChessHouseModel$Texts", "at", "I", false)
  | 38 => ("ChessHouseModel$Texts", "valueAt", "I", false)
  | _ => ("ChessHouseModel$Texts", "valueEnd", "I", false)
noncomputable def F_MB : u_T := fun k => match k with
  | 0 => ("ChessHouseModel$Board", "typed", "I", false)
  | 1 => ("ChessHouseModel$Board", "text", "[C", true)
  | 2 => ("ChessHouseModel$Board", "men", "[I", true)
  | 3 => ("ChessHouseModel$Board", "side", "I", false)
  | 4 => ("ChessHouseModel$Board", "rights", "I", false)
  | 5 => ("ChessHouseModel$Board", "passed", "I", false)
  | 6 => ("ChessHouseModel$Board", "clock", "I", false)
  | 7 => ("ChessHouseModel$Board", "number", "I", false)
  | 8 => ("ChessHouseModel$Board", "plies", "I", false)
  | 9 => ("ChessHouseModel$Board", "pastMen", "[I", true)
  | 10 => ("ChessHouseModel$Board", "pastSide", "[I", true)
  | 11 => ("ChessHouseModel$Board", "pastRights", "[I", true)
  | 12 => ("ChessHouseModel$Board", "pastPassed", "[I", true)
  | 13 => ("ChessHouseModel$Board", "pastClock", "[I", true)
  | 14 => ("ChessHouseModel$Board", "pastNumber", "[I", true)
  | 15 => ("ChessHouseModel$Board", "undoMan", "[I", true)
  | 16 => ("ChessHouseModel$Board", "undoTaken", "[I", true)
  | 17 => ("ChessHouseModel$Board", "undoWhere", "[I", true)
  | 18 => ("ChessHouseModel$Board", "undoRights", "[I", true)
  | 19 => ("ChessHouseModel$Board", "undoPassed", "[I", true)
  | 20 => ("ChessHouseModel$Board", "undoClock", "[I", true)
  | 21 => ("ChessHouseModel$Board", "lists", "[I", true)
  | 22 => ("ChessHouseModel$Board", "counts", "[I", true)
  | 23 => ("ChessHouseModel$Board", "calm", "Z", false)
  | 24 => ("ChessHouseModel$Board", "depth", "I", false)
  | 25 => ("ChessHouseModel$Board", "best", "I", false)
  | 26 => ("ChessHouseModel$Board", "bestValue", "I", false)
  | 27 => ("ChessHouseModel$Board", "lineLength", "I", false)
  | 28 => ("ChessHouseModel$Board", "bestLine", "[I", true)
  | 29 => ("ChessHouseModel$Board", "keyCount", "I", false)
  | 30 => ("ChessHouseModel$Board", "keyMoves", "[I", true)
  | 31 => ("ChessHouseModel$Board", "before", "I", false)
  | 32 => ("ChessHouseModel$Board", "met", "Z", false)
  | 33 => ("ChessHouseModel$Board", "helpLine", "[I", true)
  | 34 => ("ChessHouseModel$Board", "tried", "[I", true)
  | 35 => ("ChessHouseModel$Board", "out", "[C", false)
  | _ => ("ChessHouseModel$Board", "told", "I", false)
noncomputable def F_ME : u_T := fun k => match k with
  | 0 => ("ChessHouseModel$Ends", "thrown", "I", false)
  | 1 => ("ChessHouseModel$Ends", "files", "I", true)
  | 2 => ("ChessHouseModel$Ends", "ranks", "I", true)
  | 3 => ("ChessHouseModel$Ends", "table", "[J", true)
  | 4 => ("ChessHouseModel$Ends", "built", "[Z", true)
  | 5 => ("ChessHouseModel$Ends", "greatest", "[I", true)
  | 6 => ("ChessHouseModel$Ends", "there", "Z", false)
  | 7 => ("ChessHouseModel$Ends", "kind", "I", false)
  | 8 => ("ChessHouseModel$Ends", "white", "I", false)
  | 9 => ("ChessHouseModel$Ends", "man", "I", false)
  | 10 => ("ChessHouseModel$Ends", "black", "I", false)
  | 11 => ("ChessHouseModel$Ends", "side", "I", false)
  | 12 => ("ChessHouseModel$Ends", "list", "[I", true)
  | _ => ("ChessHouseModel$Ends", "many", "I", false)
noncomputable def jcl : List vw_C := [("ChessHouse", F_CH, 15), ("ChessHouse$Bytes", F_BY, 2), ("ChessHouse$Words", F_WO, 5), ("ChessHouse$Signs", F_SI, 11), ("ChessHouse$GameReader", F_GR, 12), ("ChessHouse$GameWriter", F_GW, 3), ("ChessHouse$Search", F_SE, 7), ("ChessHouse$Problems", F_PR, 10), ("ChessHouse$Endings", F_EN, 10), ("ChessHouse$Game", F_GA, 19), ("ChessHouse$Board", F_BO, 17), ("ChessHouseModel", F_MM, 19), ("ChessHouseModel$Texts", F_MT, 40), ("ChessHouseModel$Board", F_MB, 37), ("ChessHouseModel$Ends", F_ME, 14)]
noncomputable def tv_0 : List Int32 := [8, -8, 1, -1, 9, 7, -7, -9]
noncomputable def tv_1 : List Int32 := [4, 2, 3, 5, 6, 3, 2, 4]
noncomputable def tv_2 : List Int32 := [0, 1, 2, 3, 4, 5, 6, 7, 8, 9, 10, 11, 12, 13, 14, 15, 16, 17, 18, 19, 20, 21, 22, 23, 24, 25, 26, 27]
noncomputable def tv_3 : List Int32 := [70, 69, 78]
noncomputable def tv_4 : List Int32 := [13, 15, 15, 15, 12, 15, 15, 14, 15, 15, 15, 15, 15, 15, 15, 15, 15, 15, 15, 15, 15, 15, 15, 15, 15, 15, 15, 15, 15, 15, 15, 15, 15, 15, 15, 15, 15, 15, 15, 15, 15, 15, 15, 15, 15, 15, 15, 15, 15, 15, 15, 15, 15, 15, 15, 15, 7, 15, 15, 15, 3, 15, 15, 11]
noncomputable def tv_5 : List Int32 := [82, 101, 115, 117, 108, 116]
noncomputable def tv_6 : List Int32 := [0, 4, 8, 13, 14, 27, 8, 0]
noncomputable def tv_7 : List Int32 := [0, 1, 9, 2, 10, 18, 3, 11, 19, 27]
noncomputable def tv_8 : List Int32 := [8, -8, 1, -1, 9, 7, -7, -9]
noncomputable def jtb : jTb := fun j => match j with
  | 0 => some ("ChessHouse$Board", "STEPS", "[I", .int, 8, fun i => tv_0.getD i 0)
  | 1 => some ("ChessHouse$Board", "FIRST_RANK", "[I", .int, 8, fun i => tv_1.getD i 0)
  | 2 => some ("ChessHouse$1", "$SwitchMap$ChessHouse$Command", "[I", .int, 28, fun i => tv_2.getD i 0)
  | 3 => some ("ChessHouse$Game", "FEN", "[B", .byte, 3, fun i => tv_3.getD i 0)
  | 4 => some ("ChessHouse$Board", "KEPT", "[I", .int, 64, fun i => tv_4.getD i 0)
  | 5 => some ("ChessHouse$Game", "RESULT", "[B", .byte, 6, fun i => tv_5.getD i 0)
  | 6 => some ("ChessHouse$Board", "FORCES", "[I", .int, 8, fun i => tv_6.getD i 0)
  | 7 => some ("ChessHouse$Endings", "CORNER", "[I", .int, 10, fun i => tv_7.getD i 0)
  | 8 => some ("ChessHouse$Endings", "STEPS", "[I", .int, 8, fun i => tv_8.getD i 0)
  | _ => none
/-- its words stand in the tables at these places -/
theorem jcl_of {Ts : List Jvm.Cond} {q : vw_C} (is : List Nat) (h : is.map (fun i => Ts[i]?) = (u_ws q.1 q.2.1 q.2.2).map some) (hg : (u_ws q.1 q.2.1 q.2.2).all jgood = true) : ∀ w ∈ u_ws q.1 q.2.1 q.2.2, w ∈ jTA Ts := by
  intro w hw
  have h1 : some w ∈ is.map (fun i => Ts[i]?) := by rw [h]; exact List.mem_map.mpr ⟨w, hw, rfl⟩
  obtain ⟨i, -, hi⟩ := List.mem_map.mp h1
  exact List.mem_filter.mpr ⟨List.mem_of_getElem? hi, List.all_eq_true.mp hg w hw⟩
theorem cw_CH : ∀ w ∈ u_ws "ChessHouse" F_CH 15, w ∈ jTA lw_tbl := jcl_of (q := ("ChessHouse", F_CH, 15)) [828, 830, 832, 834, 836, 838, 840, 842, 844, 846, 848, 850, 852, 854, 856] (by decide +kernel) (by decide +kernel)
theorem cn_CH : ∀ a, a < 15 → ∀ b, b < 15 → a ≠ b → (F_CH a).2.1 ≠ (F_CH b).2.1 := by decide +kernel
theorem ct_CH : ∀ k, k < 15 → parseFieldDescriptor (F_CH k).2.2.1 = some ((parseFieldDescriptor (F_CH k).2.2.1).getD .int) := by decide +kernel
theorem cw_BY : ∀ w ∈ u_ws "ChessHouse$Bytes" F_BY 2, w ∈ jTA lw_tbl := jcl_of (q := ("ChessHouse$Bytes", F_BY, 2)) [356, 358] (by decide +kernel) (by decide +kernel)
theorem cn_BY : ∀ a, a < 2 → ∀ b, b < 2 → a ≠ b → (F_BY a).2.1 ≠ (F_BY b).2.1 := by decide +kernel
theorem ct_BY : ∀ k, k < 2 → parseFieldDescriptor (F_BY k).2.2.1 = some ((parseFieldDescriptor (F_BY k).2.2.1).getD .int) := by decide +kernel
theorem cw_WO : ∀ w ∈ u_ws "ChessHouse$Words" F_WO 5, w ∈ jTA lw_tbl := jcl_of (q := ("ChessHouse$Words", F_WO, 5)) [376, 378, 380, 382, 384] (by decide +kernel) (by decide +kernel)
theorem cn_WO : ∀ a, a < 5 → ∀ b, b < 5 → a ≠ b → (F_WO a).2.1 ≠ (F_WO b).2.1 := by decide +kernel
theorem ct_WO : ∀ k, k < 5 → parseFieldDescriptor (F_WO k).2.2.1 = some ((parseFieldDescriptor (F_WO k).2.2.1).getD .int) := by decide +kernel
theorem cw_SI : ∀ w ∈ u_ws "ChessHouse$Signs" F_SI 11, w ∈ jTA lw_tbl := jcl_of (q := ("ChessHouse$Signs", F_SI, 11)) [405, 407, 409, 411, 413, 415, 417, 419, 421, 423, 425] (by decide +kernel) (by decide +kernel)
theorem cn_SI : ∀ a, a < 11 → ∀ b, b < 11 → a ≠ b → (F_SI a).2.1 ≠ (F_SI b).2.1 := by decide +kernel
theorem ct_SI : ∀ k, k < 11 → parseFieldDescriptor (F_SI k).2.2.1 = some ((parseFieldDescriptor (F_SI k).2.2.1).getD .int) := by decide +kernel
theorem cw_GR : ∀ w ∈ u_ws "ChessHouse$GameReader" F_GR 12, w ∈ jTA lw_tbl := jcl_of (q := ("ChessHouse$GameReader", F_GR, 12)) [449, 451, 453, 455, 457, 459, 461, 463, 465, 467, 469, 471] (by decide +kernel) (by decide +kernel)
theorem cn_GR : ∀ a, a < 12 → ∀ b, b < 12 → a ≠ b → (F_GR a).2.1 ≠ (F_GR b).2.1 := by decide +kernel
theorem ct_GR : ∀ k, k < 12 → parseFieldDescriptor (F_GR k).2.2.1 = some ((parseFieldDescriptor (F_GR k).2.2.1).getD .int) := by decide +kernel
theorem cw_GW : ∀ w ∈ u_ws "ChessHouse$GameWriter" F_GW 3, w ∈ jTA lw_tbl := jcl_of (q := ("ChessHouse$GameWriter", F_GW, 3)) [488, 490, 492] (by decide +kernel) (by decide +kernel)
theorem cn_GW : ∀ a, a < 3 → ∀ b, b < 3 → a ≠ b → (F_GW a).2.1 ≠ (F_GW b).2.1 := by decide +kernel
theorem ct_GW : ∀ k, k < 3 → parseFieldDescriptor (F_GW k).2.2.1 = some ((parseFieldDescriptor (F_GW k).2.2.1).getD .int) := by decide +kernel
theorem cw_SE : ∀ w ∈ u_ws "ChessHouse$Search" F_SE 7, w ∈ jTA lw_tbl := jcl_of (q := ("ChessHouse$Search", F_SE, 7)) [509, 511, 513, 515, 517, 519, 521] (by decide +kernel) (by decide +kernel)
theorem cn_SE : ∀ a, a < 7 → ∀ b, b < 7 → a ≠ b → (F_SE a).2.1 ≠ (F_SE b).2.1 := by decide +kernel
theorem ct_SE : ∀ k, k < 7 → parseFieldDescriptor (F_SE k).2.2.1 = some ((parseFieldDescriptor (F_SE k).2.2.1).getD .int) := by decide +kernel
theorem cw_PR : ∀ w ∈ u_ws "ChessHouse$Problems" F_PR 10, w ∈ jTA lw_tbl := jcl_of (q := ("ChessHouse$Problems", F_PR, 10)) [547, 549, 551, 553, 555, 557, 559, 561, 563, 565] (by decide +kernel) (by decide +kernel)
theorem cn_PR : ∀ a, a < 10 → ∀ b, b < 10 → a ≠ b → (F_PR a).2.1 ≠ (F_PR b).2.1 := by decide +kernel
theorem ct_PR : ∀ k, k < 10 → parseFieldDescriptor (F_PR k).2.2.1 = some ((parseFieldDescriptor (F_PR k).2.2.1).getD .int) := by decide +kernel
theorem cw_EN : ∀ w ∈ u_ws "ChessHouse$Endings" F_EN 10, w ∈ jTA lw_tbl := jcl_of (q := ("ChessHouse$Endings", F_EN, 10)) [586, 588, 590, 592, 594, 596, 598, 600, 602, 604] (by decide +kernel) (by decide +kernel)
theorem cn_EN : ∀ a, a < 10 → ∀ b, b < 10 → a ≠ b → (F_EN a).2.1 ≠ (F_EN b).2.1 := by decide +kernel
theorem ct_EN : ∀ k, k < 10 → parseFieldDescriptor (F_EN k).2.2.1 = some ((parseFieldDescriptor (F_EN k).2.2.1).getD .int) := by decide +kernel
theorem cw_GA : ∀ w ∈ u_ws "ChessHouse$Game" F_GA 19, w ∈ jTA lw_tbl := jcl_of (q := ("ChessHouse$Game", F_GA, 19)) [774, 776, 778, 780, 782, 784, 786, 788, 790, 792, 794, 796, 798, 800, 802, 804, 806, 808, 810] (by decide +kernel) (by decide +kernel)
theorem cn_GA : ∀ a, a < 19 → ∀ b, b < 19 → a ≠ b → (F_GA a).2.1 ≠ (F_GA b).2.1 := by decide +kernel
theorem ct_GA : ∀ k, k < 19 → parseFieldDescriptor (F_GA k).2.2.1 = some ((parseFieldDescriptor (F_GA k).2.2.1).getD .int) := by decide +kernel
theorem cw_BO : ∀ w ∈ u_ws "ChessHouse$Board" F_BO 17, w ∈ jTA lw_tbl := jcl_of (q := ("ChessHouse$Board", F_BO, 17)) [686, 688, 690, 692, 694, 696, 698, 700, 702, 704, 706, 708, 710, 712, 714, 716, 718] (by decide +kernel) (by decide +kernel)
theorem cn_BO : ∀ a, a < 17 → ∀ b, b < 17 → a ≠ b → (F_BO a).2.1 ≠ (F_BO b).2.1 := by decide +kernel
theorem ct_BO : ∀ k, k < 17 → parseFieldDescriptor (F_BO k).2.2.1 = some ((parseFieldDescriptor (F_BO k).2.2.1).getD .int) := by decide +kernel
theorem cw_MM : ∀ w ∈ u_ws "ChessHouseModel" F_MM 19, w ∈ jTA lw_tbl := jcl_of (q := ("ChessHouseModel", F_MM, 19)) [2321, 2323, 2325, 2327, 2329, 2331, 2333, 2335, 2337, 2339, 2341, 2343, 2345, 2347, 2349, 2351, 2353, 2355, 2357] (by decide +kernel) (by decide +kernel)
theorem cn_MM : ∀ a, a < 19 → ∀ b, b < 19 → a ≠ b → (F_MM a).2.1 ≠ (F_MM b).2.1 := by decide +kernel
theorem ct_MM : ∀ k, k < 19 → parseFieldDescriptor (F_MM k).2.2.1 = some ((parseFieldDescriptor (F_MM k).2.2.1).getD .int) := by decide +kernel
theorem cw_MT : ∀ w ∈ u_ws "ChessHouseModel$Texts" F_MT 40, w ∈ jTA lw_tbl := jcl_of (q := ("ChessHouseModel$Texts", F_MT, 40)) [2081, 2083, 2085, 2087, 2089, 2091, 2093, 2095, 2097, 2099, 2101, 2103, 2105, 2107, 2109, 2111, 2113, 2115, 2117, 2119, 2121, 2123, 2125, 2127, 2129, 2131, 2133, 2135, 2137, 2139, 2141, 2143, 2145, 2147, 2149, 2151, 2153, 2155, 2157, 2159] (by decide +kernel) (by decide +kernel)
theorem cn_MT : ∀ a, a < 40 → ∀ b, b < 40 → a ≠ b → (F_MT a).2.1 ≠ (F_MT b).2.1 := by decide +kernel
theorem ct_MT : ∀ k, k < 40 → parseFieldDescriptor (F_MT k).2.2.1 = some ((parseFieldDescriptor (F_MT k).2.2.1).getD .int) := by decide +kernel
theorem cw_MB : ∀ w ∈ u_ws "ChessHouseModel$Board" F_MB 37, w ∈ jTA lw_tbl := jcl_of (q := ("ChessHouseModel$Board", F_MB, 37)) [2226, 2228, 2230, 2232, 2234, 2236, 2238, 2240, 2242, 2244, 2246, 2248, 2250, 2252, 2254, 2256, 2258, 2260, 2262, 2264, 2266, 2268, 2270, 2272, 2274, 2276, 2278, 2280, 2282, 2284, 2286, 2288, 2290, 2292, 2294, 2296, 2298] (by decide +kernel) (by decide +kernel)
theorem cn_MB : ∀ a, a < 37 → ∀ b, b < 37 → a ≠ b → (F_MB a).2.1 ≠ (F_MB b).2.1 := by decide +kernel
theorem ct_MB : ∀ k, k < 37 → parseFieldDescriptor (F_MB k).2.2.1 = some ((parseFieldDescriptor (F_MB k).2.2.1).getD .int) := by decide +kernel
theorem cw_ME : ∀ w ∈ u_ws "ChessHouseModel$Ends" F_ME 14, w ∈ jTA lw_tbl := jcl_of (q := ("ChessHouseModel$Ends", F_ME, 14)) [3067, 3069, 3071, 3073, 3075, 3077, 3079, 3081, 3083, 3085, 3087, 3089, 3091, 3093] (by decide +kernel) (by decide +kernel)
theorem cn_ME : ∀ a, a < 14 → ∀ b, b < 14 → a ≠ b → (F_ME a).2.1 ≠ (F_ME b).2.1 := by decide +kernel
theorem ct_ME : ∀ k, k < 14 → parseFieldDescriptor (F_ME k).2.2.1 = some ((parseFieldDescriptor (F_ME k).2.2.1).getD .int) := by decide +kernel
theorem jC : jCl lw_tbl jcl := by
  intro ci q h
  match ci, h with
  | 0, h => obtain rfl := Option.some.inj h; exact ⟨cw_CH, ⟨_, ct_CH⟩, cn_CH⟩
  | 1, h => obtain rfl := Option.some.inj h; exact ⟨cw_BY, ⟨_, ct_BY⟩, cn_BY⟩
  | 2, h => obtain rfl := Option.some.inj h; exact ⟨cw_WO, ⟨_, ct_WO⟩, cn_WO⟩
  | 3, h => obtain rfl := Option.some.inj h; exact ⟨cw_SI, ⟨_, ct_SI⟩, cn_SI⟩
  | 4, h => obtain rfl := Option.some.inj h; exact ⟨cw_GR, ⟨_, ct_GR⟩, cn_GR⟩
  | 5, h => obtain rfl := Option.some.inj h; exact ⟨cw_GW, ⟨_, ct_GW⟩, cn_GW⟩
  | 6, h => obtain rfl := Option.some.inj h; exact ⟨cw_SE, ⟨_, ct_SE⟩, cn_SE⟩
  | 7, h => obtain rfl := Option.some.inj h; exact ⟨cw_PR, ⟨_, ct_PR⟩, cn_PR⟩
  | 8, h => obtain rfl := Option.some.inj h; exact ⟨cw_EN, ⟨_, ct_EN⟩, cn_EN⟩
  | 9, h => obtain rfl := Option.some.inj h; exact ⟨cw_GA, ⟨_, ct_GA⟩, cn_GA⟩
  | 10, h => obtain rfl := Option.some.inj h; exact ⟨cw_BO, ⟨_, ct_BO⟩, cn_BO⟩
  | 11, h => obtain rfl := Option.some.inj h; exact ⟨cw_MM, ⟨_, ct_MM⟩, cn_MM⟩
  | 12, h => obtain rfl := Option.some.inj h; exact ⟨cw_MT, ⟨_, ct_MT⟩, cn_MT⟩
  | 13, h => obtain rfl := Option.some.inj h; exact ⟨cw_MB, ⟨_, ct_MB⟩, cn_MB⟩
  | 14, h => obtain rfl := Option.some.inj h; exact ⟨cw_ME, ⟨_, ct_ME⟩, cn_ME⟩
  | n + 15, h => exact absurd h (by simp [jcl])
end
section
/-! the words of the tables by two steps: a table, a place in it -/
noncomputable def jtF (i : Nat) : Option Jvm.Cond := if i < 301 then (k2_sels lw_privs)[i]? else (match (i - 301) / 240 with
  | 0 => tables_1_1[(i - 301) % 240]?
  | 1 => tables_1_2[(i - 301) % 240]?
  | 2 => tables_1_3[(i - 301) % 240]?
  | 3 => tables_1_4[(i - 301) % 240]?
  | 4 => tables_1_5[(i - 301) % 240]?
  | 5 => tables_1_6[(i - 301) % 240]?
  | 6 => tables_1_7[(i - 301) % 240]?
  | 7 => tables_1_8[(i - 301) % 240]?
  | 8 => tables_1_9[(i - 301) % 240]?
  | 9 => tables_1_10[(i - 301) % 240]?
  | 10 => tables_1_11[(i - 301) % 240]?
  | 11 => tables_1_12[(i - 301) % 240]?
  | 12 => tables_1_13[(i - 301) % 240]?
  | _ => none)
theorem jt_step {A B : List Jvm.Cond} {c : Nat} (hA : A.length = c) {i : Nat} (hi : c ≤ i) {w : Jvm.Cond} (h : B[i - c]? = some w) : (A ++ B)[i]? = some w := by
  rw [List.getElem?_append_right (by omega), hA]
  exact h
theorem jt_here {A B : List Jvm.Cond} {i : Nat} {w : Jvm.Cond} (h : A[i]? = some w) : (A ++ B)[i]? = some w := by
  rw [List.getElem?_append_left (List.getElem?_eq_some_iff.mp h).1]
  exact h
theorem jt_l0 : (k2_sels lw_privs).length = 301 := by decide +kernel
theorem jt_l1 : tables_1_1.length = 240 := by decide +kernel
theorem jt_l2 : tables_1_2.length = 240 := by decide +kernel
theorem jt_l3 : tables_1_3.length = 240 := by decide +kernel
theorem jt_l4 : tables_1_4.length = 240 := by decide +kernel
theorem jt_l5 : tables_1_5.length = 240 := by decide +kernel
theorem jt_l6 : tables_1_6.length = 240 := by decide +kernel
theorem jt_l7 : tables_1_7.length = 240 := by decide +kernel
theorem jt_l8 : tables_1_8.length = 240 := by decide +kernel
theorem jt_l9 : tables_1_9.length = 240 := by decide +kernel
theorem jt_l10 : tables_1_10.length = 240 := by decide +kernel
theorem jt_l11 : tables_1_11.length = 240 := by decide +kernel
theorem jt_l12 : tables_1_12.length = 240 := by decide +kernel
theorem jtF_ok {i : Nat} {w : Jvm.Cond} (h : jtF i = some w) : lw_tbl[i]? = some w := by
  unfold jtF at h
  split at h
  next => exact jt_here h
  next hi =>
    refine jt_step jt_l0 (by omega) ?_
    show (tables_1_1 ++ (tables_1_2 ++ (tables_1_3 ++ (tables_1_4 ++ (tables_1_5 ++ (tables_1_6 ++ (tables_1_7 ++ (tables_1_8 ++ (tables_1_9 ++ (tables_1_10 ++ (tables_1_11 ++ (tables_1_12 ++ tables_1_13))))))))))))[i - 301]? = some w
    have hd := Nat.div_add_mod (i - 301) 240
    split at h
    next e =>
      rw [e] at hd
      exact jt_here (by rw [show i - 301 = (i - 301) % 240 by omega]; exact h)
    next e =>
      rw [e] at hd
      exact jt_step jt_l1 (by omega) (jt_here (by rw [show i - 301 - 240 = (i - 301) % 240 by omega]; exact h))
    next e =>
      rw [e] at hd
      exact jt_step jt_l1 (by omega) (jt_step jt_l2 (by omega) (jt_here (by rw [show i - 301 - 240 - 240 = (i - 301) % 240 by omega]; exact h)))
    next e =>
      rw [e] at hd
      exact jt_step jt_l1 (by omega) (jt_step jt_l2 (by omega) (jt_step jt_l3 (by omega) (jt_here (by rw [show i - 301 - 240 - 240 - 240 = (i - 301) % 240 by omega]; exact h))))
    next e =>
      rw [e] at hd
      exact jt_step jt_l1 (by omega) (jt_step jt_l2 (by omega) (jt_step jt_l3 (by omega) (jt_step jt_l4 (by omega) (jt_here (by rw [show i - 301 - 240 - 240 - 240 - 240 = (i - 301) % 240 by omega]; exact h)))))
    next e =>
      rw [e] at hd
      exact jt_step jt_l1 (by omega) (jt_step jt_l2 (by omega) (jt_step jt_l3 (by omega) (jt_step jt_l4 (by omega) (jt_step jt_l5 (by omega) (jt_here (by rw [show i - 301 - 240 - 240 - 240 - 240 - 240 = (i - 301) % 240 by omega]; exact h))))))
    next e =>
      rw [e] at hd
      exact jt_step jt_l1 (by omega) (jt_step jt_l2 (by omega) (jt_step jt_l3 (by omega) (jt_step jt_l4 (by omega) (jt_step jt_l5 (by omega) (jt_step jt_l6 (by omega) (jt_here (by rw [show i - 301 - 240 - 240 - 240 - 240 - 240 - 240 = (i - 301) % 240 by omega]; exact h)))))))
    next e =>
      rw [e] at hd
      exact jt_step jt_l1 (by omega) (jt_step jt_l2 (by omega) (jt_step jt_l3 (by omega) (jt_step jt_l4 (by omega) (jt_step jt_l5 (by omega) (jt_step jt_l6 (by omega) (jt_step jt_l7 (by omega) (jt_here (by rw [show i - 301 - 240 - 240 - 240 - 240 - 240 - 240 - 240 = (i - 301) % 240 by omega]; exact h))))))))
    next e =>
      rw [e] at hd
      exact jt_step jt_l1 (by omega) (jt_step jt_l2 (by omega) (jt_step jt_l3 (by omega) (jt_step jt_l4 (by omega) (jt_step jt_l5 (by omega) (jt_step jt_l6 (by omega) (jt_step jt_l7 (by omega) (jt_step jt_l8 (by omega) (jt_here (by rw [show i - 301 - 240 - 240 - 240 - 240 - 240 - 240 - 240 - 240 = (i - 301) % 240 by omega]; exact h)))))))))
    next e =>
      rw [e] at hd
      exact jt_step jt_l1 (by omega) (jt_step jt_l2 (by omega) (jt_step jt_l3 (by omega) (jt_step jt_l4 (by omega) (jt_step jt_l5 (by omega) (jt_step jt_l6 (by omega) (jt_step jt_l7 (by omega) (jt_step jt_l8 (by omega) (jt_step jt_l9 (by omega) (jt_here (by rw [show i - 301 - 240 - 240 - 240 - 240 - 240 - 240 - 240 - 240 - 240 = (i - 301) % 240 by omega]; exact h))))))))))
    next e =>
      rw [e] at hd
      exact jt_step jt_l1 (by omega) (jt_step jt_l2 (by omega) (jt_step jt_l3 (by omega) (jt_step jt_l4 (by omega) (jt_step jt_l5 (by omega) (jt_step jt_l6 (by omega) (jt_step jt_l7 (by omega) (jt_step jt_l8 (by omega) (jt_step jt_l9 (by omega) (jt_step jt_l10 (by omega) (jt_here (by rw [show i - 301 - 240 - 240 - 240 - 240 - 240 - 240 - 240 - 240 - 240 - 240 = (i - 301) % 240 by omega]; exact h)))))))))))
    next e =>
      rw [e] at hd
      exact jt_step jt_l1 (by omega) (jt_step jt_l2 (by omega) (jt_step jt_l3 (by omega) (jt_step jt_l4 (by omega) (jt_step jt_l5 (by omega) (jt_step jt_l6 (by omega) (jt_step jt_l7 (by omega) (jt_step jt_l8 (by omega) (jt_step jt_l9 (by omega) (jt_step jt_l10 (by omega) (jt_step jt_l11 (by omega) (jt_here (by rw [show i - 301 - 240 - 240 - 240 - 240 - 240 - 240 - 240 - 240 - 240 - 240 - 240 = (i - 301) % 240 by omega]; exact h))))))))))))
    next e =>
      rw [e] at hd
      exact jt_step jt_l1 (by omega) (jt_step jt_l2 (by omega) (jt_step jt_l3 (by omega) (jt_step jt_l4 (by omega) (jt_step jt_l5 (by omega) (jt_step jt_l6 (by omega) (jt_step jt_l7 (by omega) (jt_step jt_l8 (by omega) (jt_step jt_l9 (by omega) (jt_step jt_l10 (by omega) (jt_step jt_l11 (by omega) (jt_step jt_l12 (by omega) ((by rw [show i - 301 - 240 - 240 - 240 - 240 - 240 - 240 - 240 - 240 - 240 - 240 - 240 - 240 = (i - 301) % 240 by omega]; exact h)))))))))))))
    next => cases h
theorem aAllc {α : Type} {p : α → Prop} {a : α} {l : List α} (h : p a) (h2 : ∀ b ∈ l, p b) : ∀ b ∈ a :: l, p b := fun b hb => by
  rcases List.mem_cons.mp hb with rfl | hb
  · exact h
  · exact h2 b hb
/-- the links of a class, once: fields that are read (entry, class, field, word), written (and the kind), tables, and the same as Props -/
abbrev jLk : Type := List (Nat × Nat × Nat × Nat) × List (Nat × Nat × Nat × Nat × Nat) × List (Nat × Nat × Nat)
noncomputable def jLkOk (own : String) (Ts : List Jvm.Cond) (cl : List vw_C) (tb : jTb) (L : jLk) : Prop := (∀ q ∈ L.1, jokF own Ts cl q.1 (q.2.1, q.2.2.1, q.2.2.2, 0, 0) = true) ∧ (∀ q ∈ L.2.1, jokF own Ts cl q.1 (q.2.1, q.2.2.1, q.2.2.2.1, 0, 0) = true ∧ ∃ z, cl[q.2.1]? = some z ∧ (z.2.1 q.2.2.1).2.2.2 = false ∧ jkd (parseFieldDescriptor (z.2.1 q.2.2.1).2.2.1) = q.2.2.2.2) ∧ (∀ q ∈ L.2.2, jokS own Ts tb q.1 (q.2.1, 0, q.2.2, 0, 0) = true)
noncomputable def jin4 (a b c d : Nat) : List (Nat × Nat × Nat × Nat) → Bool
  | [] => false
  | q :: r => (Nat.beq q.1 a && (Nat.beq q.2.1 b && (Nat.beq q.2.2.1 c && Nat.beq q.2.2.2 d))) || jin4 a b c d r
theorem jin4_ok {a b c d : Nat} : ∀ {L : List (Nat × Nat × Nat × Nat)}, jin4 a b c d L = true → (a, b, c, d) ∈ L
  | [], h => by cases h
  | q :: r, h => by
    unfold jin4 at h
    rw [Bool.or_eq_true] at h
    rcases h with h | h
    · obtain ⟨q0, q1, q2, q3⟩ := q
      simp only [Bool.and_eq_true] at h
      obtain ⟨h0, h1, h2, h3⟩ := h
      cases Nat.eq_of_beq_eq_true h0
      cases Nat.eq_of_beq_eq_true h1
      cases Nat.eq_of_beq_eq_true h2
      cases Nat.eq_of_beq_eq_true h3
      exact List.mem_cons_self
    · exact List.mem_cons_of_mem _ (jin4_ok h)
noncomputable def jin5 (a b c d e : Nat) : List (Nat × Nat × Nat × Nat × Nat) → Bool
  | [] => false
  | q :: r => (Nat.beq q.1 a && (Nat.beq q.2.1 b && (Nat.beq q.2.2.1 c && (Nat.beq q.2.2.2.1 d && Nat.beq q.2.2.2.2 e)))) || jin5 a b c d e r
theorem jin5_ok {a b c d e : Nat} : ∀ {L : List (Nat × Nat × Nat × Nat × Nat)}, jin5 a b c d e L = true → (a, b, c, d, e) ∈ L
  | [], h => by cases h
  | q :: r, h => by
    unfold jin5 at h
    rw [Bool.or_eq_true] at h
    rcases h with h | h
    · obtain ⟨q0, q1, q2, q3, q4⟩ := q
      simp only [Bool.and_eq_true] at h
      obtain ⟨h0, h1, h2, h3, h4⟩ := h
      cases Nat.eq_of_beq_eq_true h0
      cases Nat.eq_of_beq_eq_true h1
      cases Nat.eq_of_beq_eq_true h2
      cases Nat.eq_of_beq_eq_true h3
      cases Nat.eq_of_beq_eq_true h4
      exact List.mem_cons_self
    · exact List.mem_cons_of_mem _ (jin5_ok h)
noncomputable def jin3 (a b c : Nat) : List (Nat × Nat × Nat) → Bool
  | [] => false
  | q :: r => (Nat.beq q.1 a && (Nat.beq q.2.1 b && Nat.beq q.2.2 c)) || jin3 a b c r
theorem jin3_ok {a b c : Nat} : ∀ {L : List (Nat × Nat × Nat)}, jin3 a b c L = true → (a, b, c) ∈ L
  | [], h => by cases h
  | q :: r, h => by
    unfold jin3 at h
    rw [Bool.or_eq_true] at h
    rcases h with h | h
    · obtain ⟨q0, q1, q2⟩ := q
      simp only [Bool.and_eq_true] at h
      obtain ⟨h0, h1, h2⟩ := h
      cases Nat.eq_of_beq_eq_true h0
      cases Nat.eq_of_beq_eq_true h1
      cases Nat.eq_of_beq_eq_true h2
      exact List.mem_cons_self
    · exact List.mem_cons_of_mem _ (jin3_ok h)
noncomputable def jok1F (g : Nat → Option Jvm.Cond) (L : jLk) (own : String) (cl : List vw_C) (tb : jTb) (nL : Nat) (pc : Nat) (I : Instr) (ln : Nat) (py : jP) : Bool := match I with
  | .ldc i => decide (ln = 2) && (match g py.2.2.1 with
    | some (Jvm.Cond.constant a b c) => decide (a = own) && decide (b = i) && decide (c = py.2.2.2.1)
    | _ => false)
  | .ldc2_w i => decide (ln = 3) && (match g py.2.2.1 with
    | some (Jvm.Cond.constantLong a b c) => decide (a = own) && decide (b = i) && decide (c = py.2.2.2.2)
    | _ => false)
  | .getfield i => decide (ln = 3) && jin4 i py.1 py.2.1 py.2.2.1 L.1
  | .putfield i => decide (ln = 3) && jin5 i py.1 py.2.1 py.2.2.1 py.2.2.2.1.toNatClampNeg L.2.1
  | .getstatic i => decide (ln = 3) && jin3 i py.1 py.2.2.1 L.2.2
  | _ => jok1 own [] cl tb nL false pc I ln py
noncomputable def jokLF (g : Nat → Option Jvm.Cond) (L : jLk) (own : String) (cl : List vw_C) (tb : jTb) (nL : Nat) (cc : ByteArray) : Nat → List jI → Bool
  | _, [] => true
  | pc, x :: r => (decide (decode cc pc = .ok (x.1, x.2.1)) && jok1F g L own cl tb nL pc x.1 x.2.1 x.2.2) && jokLF g L own cl tb nL cc (pc + x.2.1) r
section JTF
variable {g : Nat → Option Jvm.Cond} {Ts : List Jvm.Cond}
theorem jokF_of {own : String} {cl : List vw_C} {i ci f wi : Nat} {q : vw_C} (hq : cl[ci]? = some q) (hf : f < q.2.2) {a b c : String} (h1 : (q.2.1 f).1 = a) (h2 : (q.2.1 f).2.1 = b) (h3 : (q.2.1 f).2.2.1 = c) (hw : Ts[wi]? = some (Jvm.Cond.fieldLink own i a b c) ∨ ∃ host, Ts[wi]? = some (Jvm.Cond.fieldLinkNest own i a b c host)) : jokF own Ts cl i (ci, f, wi, 0, 0) = true := by
  subst h1; subst h2; subst h3
  unfold jokF
  dsimp only
  rw [hq]
  dsimp only
  rw [Bool.and_eq_true]
  refine ⟨decide_eq_true hf, ?_⟩
  unfold jlk
  rcases hw with hw | ⟨host, hw⟩
  · rw [hw]; simp
  · rw [hw]; simp
theorem jokS_of {own : String} {tb : jTb} {i j wi : Nat} {q : String × String × String × FieldType × Nat × (Nat → Int32)} (hq : tb j = some q) {a b c : String} (h1 : q.1 = a) (h2 : q.2.1 = b) (h3 : q.2.2.1 = c) (hw : Ts[wi]? = some (Jvm.Cond.fieldLink own i a b c)) : jokS own Ts tb i (j, 0, wi, 0, 0) = true := by
  subst h1; subst h2; subst h3
  unfold jokS
  dsimp only
  rw [hq]
  dsimp only
  exact decide_eq_true hw
theorem jlm_of {own : String} {i wi : Nat} {y : MethodName} (hw : Ts[wi]? = some (Jvm.Cond.methodLink own i y) ∨ ∃ host, Ts[wi]? = some (Jvm.Cond.methodLinkNest own i y host)) : jlm Ts wi own i y = true := by
  unfold jlm
  rcases hw with hw | ⟨host, hw⟩
  · rw [hw]; simp
  · rw [hw]; simp
theorem jok1F_ok (hg : ∀ i w, g i = some w → Ts[i]? = some w) {L : jLk} {own : String} {cl : List vw_C} {tb : jTb} (hL : jLkOk own Ts cl tb L) {nL pc : Nat} {I : Instr} {ln : Nat} {py : jP} (h : jok1F g L own cl tb nL pc I ln py = true) : jok1 own Ts cl tb nL false pc I ln py = true := by
  obtain ⟨p1, p2, p3, p4, p5⟩ := py
  cases I
  case ldc i =>
    simp only [jok1F, Bool.and_eq_true] at h
    obtain ⟨h1, h2⟩ := h
    split at h2
    next a b c e =>
      simp only [Bool.and_eq_true, decide_eq_true_eq] at h2
      obtain ⟨⟨rfl, rfl⟩, rfl⟩ := h2
      simp only [jok1, Bool.and_eq_true]
      exact ⟨h1, decide_eq_true (hg _ _ e)⟩
    next => cases h2
  case ldc2_w i =>
    simp only [jok1F, Bool.and_eq_true] at h
    obtain ⟨h1, h2⟩ := h
    split at h2
    next a b c e =>
      simp only [Bool.and_eq_true, decide_eq_true_eq] at h2
      obtain ⟨⟨rfl, rfl⟩, rfl⟩ := h2
      simp only [jok1, Bool.and_eq_true]
      exact ⟨h1, decide_eq_true (hg _ _ e)⟩
    next => cases h2
  case getfield i =>
    simp only [jok1F, Bool.and_eq_true] at h
    simp only [jok1, Bool.and_eq_true]
    exact ⟨h.1, hL.1 _ (jin4_ok h.2)⟩
  case putfield i =>
    simp only [jok1F, Bool.and_eq_true] at h
    obtain ⟨h0, z, z1, z2, z3⟩ := hL.2.1 _ (jin5_ok h.2)
    simp only [jok1, Bool.and_eq_true]
    refine ⟨⟨h.1, h0⟩, ?_⟩
    unfold jokW
    dsimp only at z1 z2 z3 ⊢
    rw [z1]
    dsimp only
    rw [z2, Bool.and_eq_true]
    exact ⟨rfl, decide_eq_true z3⟩
  case getstatic i =>
    simp only [jok1F, Bool.and_eq_true] at h
    simp only [jok1, Bool.and_eq_true]
    exact ⟨h.1, hL.2.2 _ (jin3_ok h.2)⟩
  all_goals exact h
theorem jokLF_ok (hg : ∀ i w, g i = some w → Ts[i]? = some w) {L : jLk} {own : String} {cl : List vw_C} {tb : jTb} (hL : jLkOk own Ts cl tb L) {nL : Nat} {cc : ByteArray} : ∀ {is : List jI} {pc : Nat}, jokLF g L own cl tb nL cc pc is = true → jokL own Ts cl tb nL false cc pc is = true
  | [], _, _ => rfl
  | x :: r, pc, h => by
    unfold jokLF at h
    rw [Bool.and_eq_true, Bool.and_eq_true] at h
    unfold jokL jok
    rw [Bool.and_eq_true, Bool.and_eq_true]
    exact ⟨⟨h.1.1, jok1F_ok hg hL h.1.2⟩, jokLF_ok hg hL h.2⟩
end JTF
end
