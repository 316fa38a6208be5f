/-! THE CLASSES, METHODS AND LINKS of the program, laid by program -/
def ev_CNl : List String := [RX0, RX1, RX2, RX3, RX4, RX5, RX6, RX7, RX8, RX9, RX10, RX11, RX12, RX13, "MendBenchLaw", "java/util/Arrays", "java/lang/Long"]
def ev_CN (o : Nat) : String := ev_CNl.getD o ""
def ev_ft (ci k : Nat) : FieldType := match ci with
  | 0 => tyX0 k
  | 1 => tyX1 k
  | 2 => tyX2 k
  | 3 => tyX3 k
  | 4 => tyX4 k
  | 5 => tyX5 k
  | 6 => tyX6 k
  | 7 => tyX7 k
  | 8 => tyX8 k
  | 9 => tyX9 k
  | 10 => tyX10 k
  | 11 => tyX11 k
  | 12 => tyX12 k
  | _ => tyX13 k
def ev_nf (ci : Nat) : Nat := match ci with
  | 0 => 15
  | 1 => 13
  | 2 => 10
  | 3 => 12
  | 4 => 9
  | 5 => 21
  | 6 => 6
  | 7 => 15
  | 8 => 15
  | 9 => 4
  | 10 => 2
  | 11 => 16
  | 12 => 19
  | _ => 145
def ev_ov : List FieldType := [.object "MendBench$Text", .object "MendBench$Open", .object "MendBench$Pattern", .array .int, .array .byte, .object "MendBench$Stream"]
def ev_nw : List Jvm.Cond := [.methodLinkNest "MendBench$Buffers" 45 ⟨"MendBench$Text", "<init>", "()V"⟩ "MendBench",
  .methodLinkNest "MendBench$ClassReader" 73 ⟨"MendBench", "isKindLetter", "(I)Z"⟩ "MendBench",
  .methodLinkNest "MendBench$ClassReader" 76 ⟨"MendBench", "kindLow", "(I)J"⟩ "MendBench",
  .methodLinkNest "MendBench$ClassReader" 80 ⟨"MendBench", "kindHigh", "(I)J"⟩ "MendBench",
  .methodLinkNest "MendBench$ClassReader" 110 ⟨"MendBench", "isSign", "(I)Z"⟩ "MendBench",
  .methodLinkNest "MendBench$ClassReader" 113 ⟨"MendBench", "foldedHigh", "(J)J"⟩ "MendBench",
  .methodLinkNest "MendBench$ClassReader" 117 ⟨"MendBench", "isPlainBehindSlash", "(I)Z"⟩ "MendBench",
  .methodLinkNest "MendBench$Facts" 42 ⟨"MendBench$Text", "<init>", "()V"⟩ "MendBench",
  .methodLinkNest "MendBench$Facts" 111 ⟨"MendBench", "hasSign", "(JJI)Z"⟩ "MendBench",
  .methodLinkNest "MendBench$Mender" 13 ⟨"MendBench$Text", "<init>", "()V"⟩ "MendBench",
  .methodLinkNest "MendBench$Mender" 113 ⟨"MendBench", "isPlainBehindSlash", "(I)Z"⟩ "MendBench",
  .methodLinkNest "MendBench$Mender" 117 ⟨"MendBench", "isLower", "(I)Z"⟩ "MendBench",
  .methodLinkNest "MendBench$Mender" 120 ⟨"MendBench", "isDigit", "(I)Z"⟩ "MendBench",
  .methodLinkNest "MendBench$Mender" 153 ⟨"MendBench", "raised", "(I)I"⟩ "MendBench",
  .methodLinkNest "MendBench$Mender" 156 ⟨"MendBench", "lowered", "(I)I"⟩ "MendBench",
  .methodLinkNest "MendBench$Pattern" 48 ⟨"MendBench$Program", "<init>", "()V"⟩ "MendBench",
  .methodLinkNest "MendBench$Pattern" 55 ⟨"MendBench$Text", "<init>", "()V"⟩ "MendBench",
  .methodLinkNest "MendBench$Reader" 23 ⟨"MendBench$ClassReader", "<init>", "()V"⟩ "MendBench",
  .methodLinkNest "MendBench$Reader" 41 ⟨"MendBench$Open", "<init>", "()V"⟩ "MendBench",
  .methodLinkNest "MendBench$Reader" 42 ⟨"MendBench$Text", "<init>", "()V"⟩ "MendBench",
  .methodLinkNest "MendBench$Reader" 43 ⟨"MendBench", "isLower", "(I)Z"⟩ "MendBench",
  .methodLinkNest "MendBench$Reader" 175 ⟨"MendBench", "foldedHigh", "(J)J"⟩ "MendBench",
  .methodLinkNest "MendBench$Reader" 211 ⟨"MendBench", "isDigit", "(I)Z"⟩ "MendBench",
  .methodLinkNest "MendBench$Reader" 214 ⟨"MendBench", "isKindLetter", "(I)Z"⟩ "MendBench",
  .methodLinkNest "MendBench$Reader" 217 ⟨"MendBench", "kindLow", "(I)J"⟩ "MendBench",
  .methodLinkNest "MendBench$Reader" 221 ⟨"MendBench", "kindHigh", "(I)J"⟩ "MendBench",
  .methodLinkNest "MendBench$Reader" 227 ⟨"MendBench", "isPlainBehindSlash", "(I)Z"⟩ "MendBench",
  .methodLinkNest "MendBench$Search" 159 ⟨"MendBench", "hasSign", "(JJI)Z"⟩ "MendBench",
  .methodLinkNest "MendBench$Search" 190 ⟨"MendBench", "lowered", "(I)I"⟩ "MendBench",
  .methodLinkNest "MendBench$Stream" 11 ⟨"MendBench$Text", "<init>", "()V"⟩ "MendBench",
  .methodLinkNest "MendBench$Text" 29 ⟨"MendBench", "isWord", "(I)Z"⟩ "MendBench",
  .methodLinkNest "MendBench$Threads" 111 ⟨"MendBench", "hasSign", "(JJI)Z"⟩ "MendBench",
  .methodLinkNest "MendBench" 11 ⟨"MendBench$Text", "<init>", "()V"⟩ "MendBench",
  .methodLinkNest "MendBench" 25 ⟨"MendBench$Facts", "<init>", "()V"⟩ "MendBench",
  .methodLinkNest "MendBench" 32 ⟨"MendBench$Pattern", "<init>", "()V"⟩ "MendBench",
  .methodLinkNest "MendBench" 54 ⟨"MendBench$Mender", "<init>", "()V"⟩ "MendBench",
  .methodLinkNest "MendBench" 61 ⟨"MendBench$Search", "<init>", "()V"⟩ "MendBench",
  .methodLinkNest "MendBench" 93 ⟨"MendBench$Stream", "<init>", "()V"⟩ "MendBench",
  .castable "java/lang/IllegalArgumentException" "java/lang/IllegalArgumentException",
  .castable "java/lang/IllegalStateException" "java/lang/IllegalStateException",
  .castable "java/lang/IndexOutOfBoundsException" "java/lang/IndexOutOfBoundsException",
  .declares ⟨"java/lang/RuntimeException", "<init>", "()V"⟩,
  .declares ⟨"java/lang/RuntimeException", "<init>", "(Ljava/lang/String;)V"⟩,
  .declares ⟨"java/lang/Exception", "<init>", "()V"⟩,
  .declares ⟨"java/lang/Exception", "<init>", "(Ljava/lang/String;)V"⟩,
  .declares ⟨"java/lang/Throwable", "<init>", "()V"⟩,
  .declares ⟨"java/lang/Throwable", "<init>", "(Ljava/lang/String;)V"⟩]
def ev_nc : List (String × String) := [("java/lang/IllegalArgumentException", "java/lang/IllegalStateException"), ("java/lang/IllegalArgumentException", "java/lang/IndexOutOfBoundsException"), ("java/lang/IllegalStateException", "java/lang/IllegalArgumentException"), ("java/lang/IllegalStateException", "java/lang/IndexOutOfBoundsException"), ("java/lang/IndexOutOfBoundsException", "java/lang/IllegalArgumentException"), ("java/lang/IndexOutOfBoundsException", "java/lang/IllegalStateException")]
def ev_sr : List (String × Nat × String) := [("MendBench", 100, "no character, or one that texts do not have"), ("MendBench", 111, "the draft has no room for that"), ("MendBench", 121, "a part has a lower letter as its name"), ("MendBench", 137, "there are 12 patterns"), ("MendBench", 146, "there are 8 templates"), ("MendBench", 162, "no such pattern"), ("MendBench", 181, "no character of texts"), ("MendBench", 194, "an index below 0"), ("MendBench", 209, "no such pattern, buffer, place or group"), ("MendBench", 215, "no such engine"), ("MendBench", 225, "no such pattern, buffer or place"), ("MendBench", 237, "no such pattern or buffer"), ("MendBench", 243, "no such pattern, buffer or match"), ("MendBench", 245, "not so many matches"), ("MendBench", 247, "no such buffer"), ("MendBench", 249, "the draft has more than 80 characters"), ("MendBench", 261, "no such buffer, or no character there"), ("MendBench", 266, "no such pattern, template or buffer"), ("MendBench", 268, "1 to 100 matches"), ("MendBench", 276, "the macro has 10 replacements"), ("MendBench", 285, "a search is too far, or the buffer has no room"), ("MendBench", 295, "no such buffer or place"), ("MendBench", 301, "there are 12 marks"), ("MendBench", 306, "no such mark"), ("MendBench", 314, "a group is open"), ("MendBench", 319, "no group is open"), ("MendBench", 321, "a group is open, or there is none"), ("MendBench", 332, "there are 6 macros"), ("MendBench", 334, "no such macro or buffer"), ("MendBench", 336, "one of the replacements is not possible"), ("MendBench", 341, "the engine 2 does not take it, or there are 4 streams"), ("MendBench", 355, "no such stream"), ("MendBench", 363, "it is finished, or its text has no room"), ("MendBench", 371, "it is finished")]
abbrev ev_Rc : Type := ev_M × MethodName × ByteArray × Nat × Nat
def ev_rc0 : List ev_Rc := [((ev_tb ev_tX0_init, 2, 0, true, false, 0, none, []), yX0_init, cX0_init, 2153, 1009),
  ((ev_tb ev_tX0_textAt, 2, 0, false, false, 1, some (.object "MendBench$Text"), []), yX0_textAt, cX0_textAt, 6099, 1009),
  ((ev_tb ev_tX0_addMark, 4, 0, false, false, 3, some .int, []), yX0_addMark, cX0_addMark, 8019, 1009),
  ((ev_tb ev_tX0_endCall, 1, 0, false, false, 0, none, []), yX0_endCall, cX0_endCall, 7148, 1009),
  ((ev_tb ev_tX0_edit, 9, 0, false, false, 6, none, []), yX0_edit, cX0_edit, 7099, 1009),
  ((ev_tb ev_tX0_undoGroup, 2, 0, false, false, 0, some .int, []), yX0_undoGroup, cX0_undoGroup, 8056, 1009),
  ((ev_tb ev_tX0_redoGroup, 2, 0, false, false, 0, some .int, []), yX0_redoGroup, cX0_redoGroup, 8071, 1009),
  ((ev_tb ev_tX0_redoEdit, 4, 0, false, false, 0, none, []), yX0_redoEdit, cX0_redoEdit, 7124, 1009),
  ((ev_tb ev_tX0_undoEdit, 4, 0, false, false, 0, none, []), yX0_undoEdit, cX0_undoEdit, 8060, 1009),
  ((ev_tb ev_tX0_perform, 9, 0, false, false, 4, none, []), yX0_perform, cX0_perform, 7132, 1009),
  ((ev_tb ev_tX0_moveMarks, 8, 0, false, false, 4, none, []), yX0_moveMarks, cX0_moveMarks, 7144, 1009),
  ((ev_tb ev_tX0_hasRoom, 2, 0, false, false, 1, some .boolean, []), yX0_hasRoom, cX0_hasRoom, 7104, 1009),
  ((ev_tb ev_tX0_forget, 1, 0, false, false, 0, none, []), yX0_forget, cX0_forget, 7110, 1009),
  ((ev_tb ev_tX0_writeEdit, 5, 0, false, false, 2, none, []), yX0_writeEdit, cX0_writeEdit, 7115, 1009),
  ((ev_tb ev_tX0_readEdit, 3, 0, false, false, 1, some .int, []), yX0_readEdit, cX0_readEdit, 7128, 1009),
  ((ev_tb ev_tX0_writeSign, 5, 0, false, false, 2, none, []), yX0_writeSign, cX0_writeSign, 7120, 1009),
  ((ev_tb ev_tX0_readSign, 3, 0, false, false, 1, some .int, []), yX0_readSign, cX0_readSign, 7136, 1009),
  ((ev_tb ev_tX1_init, 1, 1, true, false, 0, none, []), yX1_init, cX1_init, 1068, 1004),
  ((ev_tb ev_tX1_read, 5, 1, false, false, 3, some .int, []), yX1_read, cX1_read, 4239, 1004),
  ((ev_tb ev_tX1_begin, 1, 1, false, false, 0, some .boolean, []), yX1_begin, cX1_begin, 5003, 1004)]
def ev_rc1 : List ev_Rc := [((ev_tb ev_tX1_beginOperand, 1, 1, false, false, 0, none, []), yX1_beginOperand, cX1_beginOperand, 5007, 1004),
  ((ev_tb ev_tX1_readElement, 3, 1, false, false, 0, some .boolean, []), yX1_readElement, cX1_readElement, 5012, 1004),
  ((ev_tb ev_tX1_put, 5, 1, false, false, 2, some .boolean, []), yX1_put, cX1_put, 5027, 1004),
  ((ev_tb ev_tX1_readJoint, 2, 1, false, false, 1, some .boolean, []), yX1_readJoint, cX1_readJoint, 5031, 1004),
  ((ev_tb ev_tX1_join, 1, 1, false, false, 0, some .boolean, []), yX1_join, cX1_join, 5020, 1004),
  ((ev_tb ev_tX1_end, 1, 1, false, false, 0, some .boolean, []), yX1_end, cX1_end, 5016, 1004),
  ((ev_tb ev_tX1_readRange, 8, 1, false, false, 0, some .boolean, []), yX1_readRange, cX1_readRange, 5051, 1004),
  ((ev_tb ev_tX1_readSingle, 3, 1, false, false, 0, some .int, []), yX1_readSingle, cX1_readSingle, 5055, 1004),
  ((ev_tb ev_tX2_init, 1, 2, true, false, 0, none, []), yX2_init, cX2_init, 1201, 1006),
  ((ev_tb ev_tX2_learn, 3, 2, false, false, 1, none, []), yX2_learn, cX2_learn, 5111, 1006),
  ((ev_tb ev_tX2_lowest, 5, 2, false, true, 2, some .int, []), yX2_lowest, cX2_lowest, 5161, 1006),
  ((ev_tb ev_tX2_learnNode, 3, 2, false, false, 1, none, []), yX2_learnNode, cX2_learnNode, 5115, 1006),
  ((ev_tb ev_tX2_learnRepeat, 7, 2, false, false, 1, none, []), yX2_learnRepeat, cX2_learnRepeat, 5133, 1006),
  ((ev_tb ev_tX2_learnRow, 4, 2, false, false, 1, none, []), yX2_learnRow, cX2_learnRow, 5146, 1006),
  ((ev_tb ev_tX2_learnPart, 8, 2, false, false, 1, none, []), yX2_learnPart, cX2_learnPart, 5151, 1006),
  ((ev_tb ev_tX2_empty, 3, 2, false, false, 2, none, []), yX2_empty, cX2_empty, 5119, 1006),
  ((ev_tb ev_tX2_put, 7, 2, false, false, 4, none, []), yX2_put, cX2_put, 5123, 1006),
  ((ev_tb ev_tX2_unite, 5, 2, false, false, 4, none, []), yX2_unite, cX2_unite, 5142, 1006),
  ((ev_tb ev_tX2_isPlain, 6, 2, false, false, 0, some .boolean, []), yX2_isPlain, cX2_isPlain, 5192, 1006),
  ((ev_tb ev_tX2_hasEnds, 2, 2, false, false, 0, some .boolean, []), yX2_hasEnds, cX2_hasEnds, 5196, 1006)]
def ev_rc2 : List ev_Rc := [((ev_tb ev_tX2_findLiteral, 8, 2, false, false, 0, none, []), yX2_findLiteral, cX2_findLiteral, 5168, 1006),
  ((ev_tb ev_tX2_keepLonger, 1, 2, false, false, 0, none, []), yX2_keepLonger, cX2_keepLonger, 5187, 1006),
  ((ev_tb ev_tX3_init, 1, 3, true, false, 0, none, []), yX3_init, cX3_init, 2216, 1010),
  ((ev_tb ev_tX3_start, 2, 3, false, false, 1, none, []), yX3_start, cX3_start, 7181, 1010),
  ((ev_tb ev_tX3_prepare, 10, 3, false, false, 4, some .int, []), yX3_prepare, cX3_prepare, 7186, 1010),
  ((ev_tb ev_tX3_addEdits, 6, 3, false, false, 1, none, []), yX3_addEdits, cX3_addEdits, 7229, 1010),
  ((ev_tb ev_tX3_addEdit, 6, 3, false, false, 4, none, []), yX3_addEdit, cX3_addEdit, 7235, 1010),
  ((ev_tb ev_tX3_commit, 5, 3, false, false, 2, none, []), yX3_commit, cX3_commit, 8001, 1010),
  ((ev_tb ev_tX3_isTemplate, 5, 3, false, true, 1, some .boolean, []), yX3_isTemplate, cX3_isTemplate, 6016, 1010),
  ((ev_tb ev_tX3_lengthOf, 6, 3, false, true, 3, some .int, []), yX3_lengthOf, cX3_lengthOf, 6019, 1010),
  ((ev_tb ev_tX3_fillIn, 9, 3, false, false, 3, none, []), yX3_fillIn, cX3_fillIn, 7191, 1010),
  ((ev_tb ev_tX3_putPiece, 8, 3, false, false, 4, none, []), yX3_putPiece, cX3_putPiece, 7199, 1010),
  ((ev_tb ev_tX3_putSlashed, 3, 3, false, false, 2, none, []), yX3_putSlashed, cX3_putSlashed, 7203, 1010),
  ((ev_tb ev_tX3_putSpan, 4, 3, false, false, 2, none, []), yX3_putSpan, cX3_putSpan, 7220, 1010),
  ((ev_tb ev_tX3_putSign, 2, 3, false, false, 1, none, []), yX3_putSign, cX3_putSign, 7207, 1010),
  ((ev_tb ev_tX4_init, 1, 4, true, false, 0, none, []), yX4_init, cX4_init, 1119, 1005),
  ((ev_tb ev_tX5_init, 1, 5, true, false, 0, none, []), yX5_init, cX5_init, 2000, 1007),
  ((ev_tb ev_tX5_restart, 1, 5, false, false, 0, none, []), yX5_restart, cX5_restart, 4097, 1007),
  ((ev_tb ev_tX5_add, 4, 5, false, false, 3, some .int, []), yX5_add, cX5_add, 4117, 1007),
  ((ev_tb ev_tX5_isNode, 2, 5, false, false, 1, some .boolean, []), yX5_isNode, cX5_isNode, 4121, 1007)]
def ev_rc3 : List ev_Rc := [((ev_tb ev_tX5_root, 1, 5, false, false, 0, some .int, []), yX5_root, cX5_root, 5158, 1007),
  ((ev_tb ev_tX5_isEnd, 1, 5, false, true, 1, some .boolean, []), yX5_isEnd, cX5_isEnd, 5126, 1007),
  ((ev_tb ev_tX5_isRepeat, 1, 5, false, true, 1, some .boolean, []), yX5_isRepeat, cX5_isRepeat, 4136, 1007),
  ((ev_tb ev_tX5_isLook, 1, 5, false, true, 1, some .boolean, []), yX5_isLook, cX5_isLook, 5154, 1007),
  ((ev_tb ev_tX5_hasRows, 1, 5, false, true, 1, some .boolean, []), yX5_hasRows, cX5_hasRows, 4140, 1007),
  ((ev_tb ev_tX5_onlyRow, 3, 5, false, false, 1, some .int, []), yX5_onlyRow, cX5_onlyRow, 5172, 1007),
  ((ev_tb ev_tX5_isOneSign, 2, 5, false, false, 1, some .boolean, []), yX5_isOneSign, cX5_isOneSign, 5176, 1007),
  ((ev_tb ev_tX5_tie, 3, 5, false, false, 0, none, []), yX5_tie, cX5_tie, 4133, 1007),
  ((ev_tb ev_tX5_tieRows, 7, 5, false, false, 1, none, []), yX5_tieRows, cX5_tieRows, 4144, 1007),
  ((ev_tb ev_tX6_init, 1, 6, true, false, 0, none, []), yX6_init, cX6_init, 2006, 1008),
  ((ev_tb ev_tX6_isIn, 2, 6, false, false, 1, some .boolean, []), yX6_isIn, cX6_isIn, 5233, 1008),
  ((ev_tb ev_tX6_write, 6, 6, false, false, 3, none, []), yX6_write, cX6_write, 5200, 1008),
  ((ev_tb ev_tX6_findNever, 8, 6, false, false, 3, none, []), yX6_findNever, cX6_findNever, 5205, 1008),
  ((ev_tb ev_tX6_writeNode, 7, 6, false, false, 3, none, []), yX6_writeNode, cX6_writeNode, 5211, 1008),
  ((ev_tb ev_tX6_aimJumps, 7, 6, false, false, 3, none, []), yX6_aimJumps, cX6_aimJumps, 5237, 1008),
  ((ev_tb ev_tX6_writeRepeat, 9, 6, false, false, 4, none, []), yX6_writeRepeat, cX6_writeRepeat, 5220, 1008),
  ((ev_tb ev_tX6_add, 7, 6, false, false, 4, none, []), yX6_add, cX6_add, 5215, 1008),
  ((ev_tb ev_tX6_copy, 5, 6, false, false, 2, none, []), yX6_copy, cX6_copy, 5229, 1008),
  ((ev_tb ev_tX6_insert, 5, 6, false, false, 3, none, []), yX6_insert, cX6_insert, 5224, 1008),
  ((ev_tb ev_tX6_findLive, 4, 6, false, false, 0, none, []), yX6_findLive, cX6_findLive, 6001, 1008)]
def ev_rc4 : List ev_Rc := [((ev_tb ev_tX6_leadsOn, 4, 6, false, false, 1, some .boolean, []), yX6_leadsOn, cX6_leadsOn, 6005, 1008),
  ((ev_tb ev_tX7_init, 2, 7, true, false, 0, none, []), yX7_init, cX7_init, 1060, 1003),
  ((ev_tb ev_tX7_keepPart, 3, 7, false, false, 2, none, []), yX7_keepPart, cX7_keepPart, 5092, 1003),
  ((ev_tb ev_tX7_read, 6, 7, false, false, 3, some .boolean, []), yX7_read, cX7_read, 4093, 1003),
  ((ev_tb ev_tX7_peek, 2, 7, false, false, 1, some .int, []), yX7_peek, cX7_peek, 4156, 1003),
  ((ev_tb ev_tX7_readNext, 2, 7, false, false, 0, some .boolean, []), yX7_readNext, cX7_readNext, 4152, 1003),
  ((ev_tb ev_tX7_isOn, 2, 7, false, false, 1, some .boolean, []), yX7_isOn, cX7_isOn, 4235, 1003),
  ((ev_tb ev_tX7_countNode, 1, 7, false, false, 0, some .boolean, []), yX7_countNode, cX7_countNode, 4176, 1003),
  ((ev_tb ev_tX7_addNode, 4, 7, false, false, 3, some .boolean, []), yX7_addNode, cX7_addNode, 4172, 1003),
  ((ev_tb ev_tX7_addSign, 6, 7, false, false, 1, some .boolean, []), yX7_addSign, cX7_addSign, 5079, 1003),
  ((ev_tb ev_tX7_addSigns, 6, 7, false, false, 2, some .boolean, []), yX7_addSigns, cX7_addSigns, 5068, 1003),
  ((ev_tb ev_tX7_addItem, 3, 7, false, false, 1, some .boolean, []), yX7_addItem, cX7_addItem, 4125, 1003),
  ((ev_tb ev_tX7_addRepeat, 7, 7, false, false, 2, some .boolean, []), yX7_addRepeat, cX7_addRepeat, 4219, 1003),
  ((ev_tb ev_tX7_enclose, 4, 7, false, false, 1, some .int, []), yX7_enclose, cX7_enclose, 4223, 1003),
  ((ev_tb ev_tX7_readBounds, 4, 7, false, false, 0, some .boolean, []), yX7_readBounds, cX7_readBounds, 4227, 1003),
  ((ev_tb ev_tX7_readNumber, 2, 7, false, false, 0, some .int, []), yX7_readNumber, cX7_readNumber, 4231, 1003),
  ((ev_tb ev_tX7_readSlash, 2, 7, false, false, 0, some .boolean, []), yX7_readSlash, cX7_readSlash, 5072, 1003),
  ((ev_tb ev_tX7_readName, 2, 7, false, false, 0, some .boolean, []), yX7_readName, cX7_readName, 5084, 1003),
  ((ev_tb ev_tX7_begin, 5, 7, false, false, 3, some .boolean, []), yX7_begin, cX7_begin, 4104, 1003),
  ((ev_tb ev_tX7_endRow, 3, 7, false, false, 1, some .boolean, []), yX7_endRow, cX7_endRow, 4113, 1003)]
def ev_rc5 : List ev_Rc := [((ev_tb ev_tX7_end, 4, 7, false, false, 0, some .boolean, []), yX7_end, cX7_end, 4109, 1003),
  ((ev_tb ev_tX7_readBar, 2, 7, false, false, 0, some .boolean, []), yX7_readBar, cX7_readBar, 4215, 1003),
  ((ev_tb ev_tX7_readBracket, 1, 7, false, false, 0, some .boolean, []), yX7_readBracket, cX7_readBracket, 4164, 1003),
  ((ev_tb ev_tX7_beginPart, 4, 7, false, false, 3, some .boolean, []), yX7_beginPart, cX7_beginPart, 4184, 1003),
  ((ev_tb ev_tX7_beginGroup, 1, 7, false, false, 0, some .boolean, []), yX7_beginGroup, cX7_beginGroup, 4180, 1003),
  ((ev_tb ev_tX7_readAngle, 3, 7, false, false, 0, some .boolean, []), yX7_readAngle, cX7_readAngle, 4188, 1003),
  ((ev_tb ev_tX7_readCondition, 2, 7, false, false, 0, some .boolean, []), yX7_readCondition, cX7_readCondition, 4193, 1003),
  ((ev_tb ev_tX7_readCall, 2, 7, false, false, 0, some .boolean, []), yX7_readCall, cX7_readCall, 4208, 1003),
  ((ev_tb ev_tX7_readVerb, 3, 7, false, false, 0, some .boolean, []), yX7_readVerb, cX7_readVerb, 4168, 1003),
  ((ev_tb ev_tX7_readSwitches, 7, 7, false, false, 0, some .boolean, []), yX7_readSwitches, cX7_readSwitches, 4201, 1003),
  ((ev_tb ev_tX7_switchOf, 1, 7, false, true, 1, some .int, []), yX7_switchOf, cX7_switchOf, 4204, 1003),
  ((ev_tb ev_tX7_readInclusion, 2, 7, false, false, 0, some .boolean, []), yX7_readInclusion, cX7_readInclusion, 4197, 1003),
  ((ev_tb ev_tX7_endText, 2, 7, false, false, 0, some .boolean, []), yX7_endText, cX7_endText, 4148, 1003),
  ((ev_tb ev_tX7_resolve, 4, 7, false, false, 0, some .boolean, []), yX7_resolve, cX7_resolve, 4129, 1003),
  ((ev_tb ev_tX8_init, 1, 8, true, false, 0, none, []), yX8_init, cX8_init, 3021, 1011),
  ((ev_tb ev_tX8_ahead, 7, 8, false, false, 3, some .int, []), yX8_ahead, cX8_ahead, 6108, 1011),
  ((ev_tb ev_tX8_backwards, 6, 8, false, false, 3, some .int, []), yX8_backwards, cX8_backwards, 7065, 1011),
  ((ev_tb ev_tX8_nextFrom, 1, 8, false, false, 0, some .int, []), yX8_nextFrom, cX8_nextFrom, 7077, 1011),
  ((ev_tb ev_tX8_spanOf, 3, 8, false, false, 1, some .int, []), yX8_spanOf, cX8_spanOf, 6229, 1011),
  ((ev_tb ev_tX8_signAt, 2, 8, false, false, 1, some .int, []), yX8_signAt, cX8_signAt, 7224, 1011)]
def ev_rc6 : List ev_Rc := [((ev_tb ev_tX8_groupOf, 2, 8, false, false, 1, some .int, []), yX8_groupOf, cX8_groupOf, 7216, 1011),
  ((ev_tb ev_tX8_prepare, 3, 8, false, false, 2, none, []), yX8_prepare, cX8_prepare, 6112, 1011),
  ((ev_tb ev_tX8_run, 6, 8, false, false, 1, some .int, []), yX8_run, cX8_run, 6116, 1011),
  ((ev_tb ev_tX8_takeStep, 1, 8, false, false, 0, some .boolean, []), yX8_takeStep, cX8_takeStep, 6139, 1011),
  ((ev_tb ev_tX8_push, 7, 8, false, false, 4, some .int, []), yX8_push, cX8_push, 6155, 1011),
  ((ev_tb ev_tX8_pushCell, 6, 8, false, false, 4, some .int, []), yX8_pushCell, cX8_pushCell, 6159, 1011),
  ((ev_tb ev_tX8_isFrame, 2, 8, false, false, 1, some .boolean, []), yX8_isFrame, cX8_isFrame, 6147, 1011),
  ((ev_tb ev_tX8_callsAround, 1, 8, false, false, 0, some .int, []), yX8_callsAround, cX8_callsAround, 6193, 1011),
  ((ev_tb ev_tX8_looksAround, 1, 8, false, false, 0, some .int, []), yX8_looksAround, cX8_looksAround, 6209, 1011),
  ((ev_tb ev_tX8_recordOf, 4, 8, false, false, 1, some .int, []), yX8_recordOf, cX8_recordOf, 6178, 1011),
  ((ev_tb ev_tX8_keep, 5, 8, false, false, 3, none, []), yX8_keep, cX8_keep, 6197, 1011),
  ((ev_tb ev_tX8_goBack, 4, 8, false, false, 0, some .int, []), yX8_goBack, cX8_goBack, 6123, 1011),
  ((ev_tb ev_tX8_restore, 4, 8, false, false, 3, none, []), yX8_restore, cX8_restore, 6127, 1011),
  ((ev_tb ev_tX8_beginFurther, 4, 8, false, false, 1, some .boolean, []), yX8_beginFurther, cX8_beginFurther, 6135, 1011),
  ((ev_tb ev_tX8_passWall, 5, 8, false, false, 1, some .boolean, []), yX8_passWall, cX8_passWall, 6143, 1011),
  ((ev_tb ev_tX8_wallBelow, 4, 8, false, false, 1, some .int, []), yX8_wallBelow, cX8_wallBelow, 6131, 1011),
  ((ev_tb ev_tX8_enter, 3, 8, false, false, 1, some .boolean, []), yX8_enter, cX8_enter, 6151, 1011),
  ((ev_tb ev_tX8_passGot, 9, 8, false, false, 1, some .boolean, []), yX8_passGot, cX8_passGot, 6174, 1011),
  ((ev_tb ev_tX8_choose, 3, 8, false, false, 1, some .boolean, []), yX8_choose, cX8_choose, 6185, 1011),
  ((ev_tb ev_tX8_call, 4, 8, false, false, 1, some .boolean, []), yX8_call, cX8_call, 6189, 1011)]
def ev_rc7 : List ev_Rc := [((ev_tb ev_tX8_look, 2, 8, false, false, 1, some .boolean, []), yX8_look, cX8_look, 6205, 1011),
  ((ev_tb ev_tX8_leave, 3, 8, false, false, 1, some .boolean, []), yX8_leave, cX8_leave, 6213, 1011),
  ((ev_tb ev_tX8_endLook, 4, 8, false, false, 1, some .boolean, []), yX8_endLook, cX8_endLook, 6221, 1011),
  ((ev_tb ev_tX8_goRound, 5, 8, false, false, 1, some .boolean, []), yX8_goRound, cX8_goRound, 6201, 1011),
  ((ev_tb ev_tX8_beginRound, 2, 8, false, false, 1, some .boolean, []), yX8_beginRound, cX8_beginRound, 6225, 1011),
  ((ev_tb ev_tX8_endRound, 4, 8, false, false, 1, some .boolean, []), yX8_endRound, cX8_endRound, 6217, 1011),
  ((ev_tb ev_tX9_init, 1, 9, true, false, 0, none, []), yX9_init, cX9_init, 3133, 1013),
  ((ev_tb ev_tX9_begin, 3, 9, false, false, 2, none, []), yX9_begin, cX9_begin, 8100, 1013),
  ((ev_tb ev_tX9_take, 3, 9, false, false, 1, none, []), yX9_take, cX9_take, 8119, 1013),
  ((ev_tb ev_tX9_tell, 1, 9, false, false, 0, some .int, []), yX9_tell, cX9_tell, 8126, 1013),
  ((ev_tb ev_tX10_init, 1, 10, true, false, 0, none, []), yX10_init, cX10_init, 1037, 1002),
  ((ev_tb ev_tX10_at, 2, 10, false, false, 1, some .int, []), yX10_at, cX10_at, 4160, 1002),
  ((ev_tb ev_tX10_add, 2, 10, false, false, 1, none, []), yX10_add, cX10_add, 4078, 1002),
  ((ev_tb ev_tX10_copy, 2, 10, false, false, 1, none, []), yX10_copy, cX10_copy, 5096, 1002),
  ((ev_tb ev_tX10_splice, 8, 10, false, false, 5, none, []), yX10_splice, cX10_splice, 7140, 1002),
  ((ev_tb ev_tX10_isSuch, 3, 10, false, false, 2, some .boolean, []), yX10_isSuch, cX10_isSuch, 6164, 1002),
  ((ev_tb ev_tX11_init, 3, 11, true, false, 1, none, []), yX11_init, cX11_init, 3075, 1012),
  ((ev_tb ev_tX11_run, 5, 11, false, false, 3, none, []), yX11_run, cX11_run, 7012, 1012),
  ((ev_tb ev_tX11_begin, 2, 11, false, false, 1, none, []), yX11_begin, cX11_begin, 7016, 1012),
  ((ev_tb ev_tX11_spanOf, 2, 11, false, false, 1, some .int, []), yX11_spanOf, cX11_spanOf, 7046, 1012)]
def ev_rc8 : List ev_Rc := [((ev_tb ev_tX11_settle, 6, 11, false, false, 3, none, []), yX11_settle, cX11_settle, 7020, 1012),
  ((ev_tb ev_tX11_pass, 9, 11, false, false, 2, none, []), yX11_pass, cX11_pass, 7040, 1012),
  ((ev_tb ev_tX11_addThread, 7, 11, false, false, 3, none, []), yX11_addThread, cX11_addThread, 7025, 1012),
  ((ev_tb ev_tX11_follow, 5, 11, false, false, 3, none, []), yX11_follow, cX11_follow, 7034, 1012),
  ((ev_tb ev_tX11_push, 3, 11, false, false, 2, none, []), yX11_push, cX11_push, 7029, 1012),
  ((ev_tb ev_tX12_init, 2, 12, true, false, 0, none, []), yX12_init, cX12_init, 1029, 1001),
  ((ev_tb ev_tX12_type, 4, 12, false, false, 1, some .int, []), yX12_type, cX12_type, 3224, 1001),
  ((ev_tb ev_tX12_clear, 2, 12, false, false, 0, some .int, []), yX12_clear, cX12_clear, 3215, 1001),
  ((ev_tb ev_tX12_part, 2, 12, false, false, 1, some .int, []), yX12_part, cX12_part, 4085, 1001),
  ((ev_tb ev_tX12_pattern, 2, 12, false, false, 0, some .int, []), yX12_pattern, cX12_pattern, 5106, 1001),
  ((ev_tb ev_tX12_template, 1, 12, false, false, 0, some .int, []), yX12_template, cX12_template, 6012, 1001),
  ((ev_tb ev_tX12_groups, 3, 12, false, false, 1, some .int, []), yX12_groups, cX12_groups, 6032, 1001),
  ((ev_tb ev_tX12_least, 3, 12, false, false, 1, some .int, []), yX12_least, cX12_least, 6059, 1001),
  ((ev_tb ev_tX12_begins, 4, 12, false, false, 2, some .boolean, []), yX12_begins, cX12_begins, 6066, 1001),
  ((ev_tb ev_tX12_literal, 4, 12, false, false, 2, some .int, []), yX12_literal, cX12_literal, 6075, 1001),
  ((ev_tb ev_tX12_runaway, 3, 12, false, false, 1, some .int, []), yX12_runaway, cX12_runaway, 6084, 1001),
  ((ev_tb ev_tX12_find, 5, 12, false, false, 4, some .int, []), yX12_find, cX12_find, 6091, 1001),
  ((ev_tb ev_tX12_anew, 5, 12, false, false, 4, some .int, []), yX12_anew, cX12_anew, 6236, 1001),
  ((ev_tb ev_tX12_by, 6, 12, false, false, 5, some .int, []), yX12_by, cX12_by, 7003, 1001),
  ((ev_tb ev_tX12_steps, 6, 12, false, false, 3, some .int, []), yX12_steps, cX12_steps, 7053, 1001)]
def ev_rc9 : List ev_Rc := [((ev_tb ev_tX12_back, 6, 12, false, false, 3, some .int, []), yX12_back, cX12_back, 7061, 1001),
  ((ev_tb ev_tX12_matches, 9, 12, false, false, 2, some .int, []), yX12_matches, cX12_matches, 7072, 1001),
  ((ev_tb ev_tX12_match, 9, 12, false, false, 3, some .int, []), yX12_match, cX12_match, 7084, 1001),
  ((ev_tb ev_tX12_fill, 3, 12, false, false, 1, some .int, []), yX12_fill, cX12_fill, 7093, 1001),
  ((ev_tb ev_tX12_size, 3, 12, false, false, 1, some .int, []), yX12_size, cX12_size, 7155, 1001),
  ((ev_tb ev_tX12_sign, 4, 12, false, false, 2, some .char, []), yX12_sign, cX12_sign, 7162, 1001),
  ((ev_tb ev_tX12_replace, 9, 12, false, false, 4, some .int, []), yX12_replace, cX12_replace, 7170, 1001),
  ((ev_tb ev_tX12_mark, 6, 12, false, false, 3, some .int, []), yX12_mark, cX12_mark, 8014, 1001),
  ((ev_tb ev_tX12_place, 2, 12, false, false, 1, some .int, []), yX12_place, cX12_place, 8027, 1001),
  ((ev_tb ev_tX12_open, 1, 12, false, false, 0, some .int, []), yX12_open, cX12_open, 8035, 1001),
  ((ev_tb ev_tX12_shut, 1, 12, false, false, 0, some .int, []), yX12_shut, cX12_shut, 8043, 1001),
  ((ev_tb ev_tX12_undo, 1, 12, false, false, 0, some .int, []), yX12_undo, cX12_undo, 8051, 1001),
  ((ev_tb ev_tX12_redo, 1, 12, false, false, 0, some .int, []), yX12_redo, cX12_redo, 8067, 1001),
  ((ev_tb ev_tX12_record, 1, 12, false, false, 0, some .int, []), yX12_record, cX12_record, 8078, 1001),
  ((ev_tb ev_tX12_play, 11, 12, false, false, 2, some .int, []), yX12_play, cX12_play, 8086, 1001),
  ((ev_tb ev_tX12_stream, 4, 12, false, false, 2, some .int, []), yX12_stream, cX12_stream, 8095, 1001),
  ((ev_tb ev_tX12_feed, 3, 12, false, false, 1, some .int, []), yX12_feed, cX12_feed, 8109, 1001),
  ((ev_tb ev_tX12_finish, 3, 12, false, false, 1, some .int, []), yX12_finish, cX12_finish, 8134, 1001),
  ((ev_tb ev_tX12_told, 3, 12, false, false, 1, some .int, []), yX12_told, cX12_told, 8142, 1001),
  ((ev_tb ev_tX12_countSigns, 4, 12, false, true, 1, some .int, []), yX12_countSigns, cX12_countSigns, 3227, 1001)]
def ev_rc10 : List ev_Rc := [((ev_tb ev_tX12_patternAt, 2, 12, false, false, 1, some (.object "MendBench$Pattern"), []), yX12_patternAt, cX12_patternAt, 6036, 1001),
  ((ev_tb ev_tX12_templateAt, 2, 12, false, false, 1, some (.object "MendBench$Text"), []), yX12_templateAt, cX12_templateAt, 7174, 1001),
  ((ev_tb ev_tX12_streamAt, 2, 12, false, false, 1, some (.object "MendBench$Stream"), []), yX12_streamAt, cX12_streamAt, 8113, 1001),
  ((ev_tb ev_tX12_isSearch, 7, 12, false, false, 4, some .boolean, []), yX12_isSearch, cX12_isSearch, 6095, 1001),
  ((ev_tb ev_tX12_findBack, 8, 12, false, false, 4, some .int, []), yX12_findBack, cX12_findBack, 6104, 1001),
  ((ev_tb ev_tX12_findThreaded, 10, 12, false, false, 5, some .int, []), yX12_findThreaded, cX12_findThreaded, 7008, 1001),
  ((ev_tb ev_tX12_recordReplacement, 5, 12, false, false, 3, none, []), yX12_recordReplacement, cX12_recordReplacement, 8007, 1001),
  ((ev_tb ev_tX12_isSign, 1, 12, false, true, 1, some .boolean, []), yX12_isSign, cX12_isSign, 3230, 1001),
  ((ev_tb ev_tX12_isDigit, 1, 12, false, true, 1, some .boolean, []), yX12_isDigit, cX12_isDigit, 4211, 1001),
  ((ev_tb ev_tX12_isLower, 1, 12, false, true, 1, some .boolean, []), yX12_isLower, cX12_isLower, 4088, 1001),
  ((ev_tb ev_tX12_isWord, 1, 12, false, true, 1, some .boolean, []), yX12_isWord, cX12_isWord, 6168, 1001),
  ((ev_tb ev_tX12_isPlainBehindSlash, 1, 12, false, true, 1, some .boolean, []), yX12_isPlainBehindSlash, cX12_isPlainBehindSlash, 5058, 1001),
  ((ev_tb ev_tX12_lowered, 1, 12, false, true, 1, some .int, []), yX12_lowered, cX12_lowered, 6181, 1001),
  ((ev_tb ev_tX12_raised, 1, 12, false, true, 1, some .int, []), yX12_raised, cX12_raised, 7210, 1001),
  ((ev_tb ev_tX12_hasSign, 5, 12, false, true, 3, some .boolean, []), yX12_hasSign, cX12_hasSign, 5164, 1001),
  ((ev_tb ev_tX12_foldedHigh, 2, 12, false, true, 1, some .long, []), yX12_foldedHigh, cX12_foldedHigh, 5062, 1001),
  ((ev_tb ev_tX12_isKindLetter, 1, 12, false, true, 1, some .boolean, []), yX12_isKindLetter, cX12_isKindLetter, 5034, 1001),
  ((ev_tb ev_tX12_kindLow, 1, 12, false, true, 1, some .long, []), yX12_kindLow, cX12_kindLow, 5037, 1001),
  ((ev_tb ev_tX12_kindHigh, 1, 12, false, true, 1, some .long, []), yX12_kindHigh, cX12_kindHigh, 5044, 1001),
  ((ev_tb ev_tX13_init, 2, 13, true, false, 0, none, []), yX13_init, cX13_init, 8147, 1014)]
def ev_rc11 : List ev_Rc := [((ev_tb ev_tX13_thrown, 1, 13, false, false, 0, some .int, []), yX13_thrown, cX13_thrown, 10113, 1014),
  ((ev_tb ev_tX13_fails, 2, 13, false, false, 1, some .int, []), yX13_fails, cX13_fails, 10127, 1014),
  ((ev_tb ev_tX13_in, 3, 13, false, true, 3, some .boolean, []), yX13_in, cX13_in, 10123, 1014),
  ((ev_tb ev_tX13_isSign, 1, 13, false, true, 1, some .boolean, []), yX13_isSign, cX13_isSign, 10120, 1014),
  ((ev_tb ev_tX13_isLower, 1, 13, false, true, 1, some .boolean, []), yX13_isLower, cX13_isLower, 10138, 1014),
  ((ev_tb ev_tX13_isLetter, 1, 13, false, true, 1, some .boolean, []), yX13_isLetter, cX13_isLetter, 10191, 1014),
  ((ev_tb ev_tX13_isDigit, 1, 13, false, true, 1, some .boolean, []), yX13_isDigit, cX13_isDigit, 10177, 1014),
  ((ev_tb ev_tX13_isWord, 1, 13, false, true, 1, some .boolean, []), yX13_isWord, cX13_isWord, 10198, 1014),
  ((ev_tb ev_tX13_isEscaped, 1, 13, false, true, 1, some .boolean, []), yX13_isEscaped, cX13_isEscaped, 10215, 1014),
  ((ev_tb ev_tX13_other, 1, 13, false, true, 1, some .int, []), yX13_other, cX13_other, 11008, 1014),
  ((ev_tb ev_tX13_type, 6, 13, false, false, 1, some .int, []), yX13_type, cX13_type, 10117, 1014),
  ((ev_tb ev_tX13_clear, 2, 13, false, false, 0, some .int, []), yX13_clear, cX13_clear, 10131, 1014),
  ((ev_tb ev_tX13_base, 1, 13, false, false, 0, some .int, []), yX13_base, cX13_base, 10150, 1014),
  ((ev_tb ev_tX13_peek, 4, 13, false, false, 1, some .int, []), yX13_peek, cX13_peek, 10158, 1014),
  ((ev_tb ev_tX13_goes, 2, 13, false, false, 1, none, []), yX13_goes, cX13_goes, 10170, 1014),
  ((ev_tb ev_tX13_makes, 4, 13, false, false, 1, some .int, []), yX13_makes, cX13_makes, 10146, 1014),
  ((ev_tb ev_tX13_counts, 1, 13, false, false, 0, none, []), yX13_counts, cX13_counts, 10181, 1014),
  ((ev_tb ev_tX13_adds, 3, 13, false, false, 1, some .int, []), yX13_adds, cX13_adds, 10212, 1014),
  ((ev_tb ev_tX13_addsSet, 6, 13, false, false, 2, none, []), yX13_addsSet, cX13_addsSet, 10208, 1014),
  ((ev_tb ev_tX13_opens, 3, 13, false, false, 2, none, []), yX13_opens, cX13_opens, 10154, 1014)]
def ev_rc12 : List ev_Rc := [((ev_tb ev_tX13_shuts, 1, 13, false, false, 0, none, []), yX13_shuts, cX13_shuts, 11036, 1014),
  ((ev_tb ev_tX13_parts, 4, 13, false, false, 0, none, []), yX13_parts, cX13_parts, 11040, 1014),
  ((ev_tb ev_tX13_oneOf, 2, 13, false, true, 1, some .long, []), yX13_oneOf, cX13_oneOf, 10201, 1014),
  ((ev_tb ev_tX13_twoOf, 2, 13, false, true, 1, some .long, []), yX13_twoOf, cX13_twoOf, 10204, 1014),
  ((ev_tb ev_tX13_isOf, 5, 13, false, true, 3, some .boolean, []), yX13_isOf, cX13_isOf, 11113, 1014),
  ((ev_tb ev_tX13_ranges, 5, 13, false, false, 3, none, []), yX13_ranges, cX13_ranges, 11005, 1014),
  ((ev_tb ev_tX13_sorts, 5, 13, false, false, 1, none, []), yX13_sorts, cX13_sorts, 10195, 1014),
  ((ev_tb ev_tX13_isSort, 2, 13, false, true, 1, some .boolean, []), yX13_isSort, cX13_isSort, 10188, 1014),
  ((ev_tb ev_tX13_joins, 2, 13, false, false, 1, none, []), yX13_joins, cX13_joins, 10231, 1014),
  ((ev_tb ev_tX13_takes, 2, 13, false, false, 1, none, []), yX13_takes, cX13_takes, 10237, 1014),
  ((ev_tb ev_tX13_single, 4, 13, false, false, 1, some .int, []), yX13_single, cX13_single, 10227, 1014),
  ((ev_tb ev_tX13_singleAt, 3, 13, false, false, 1, some .int, []), yX13_singleAt, cX13_singleAt, 11001, 1014),
  ((ev_tb ev_tX13_beginsClass, 2, 13, false, false, 1, none, []), yX13_beginsClass, cX13_beginsClass, 10223, 1014),
  ((ev_tb ev_tX13_klass, 8, 13, false, false, 0, none, []), yX13_klass, cX13_klass, 10219, 1014),
  ((ev_tb ev_tX13_number, 3, 13, false, false, 0, some .int, []), yX13_number, cX13_number, 10174, 1014),
  ((ev_tb ev_tX13_repeats, 6, 13, false, false, 0, none, []), yX13_repeats, cX13_repeats, 10166, 1014),
  ((ev_tb ev_tX13_escapes, 3, 13, false, false, 0, none, []), yX13_escapes, cX13_escapes, 10185, 1014),
  ((ev_tb ev_tX13_lettersOf, 3, 13, false, false, 0, some .int, []), yX13_lettersOf, cX13_lettersOf, 11028, 1014),
  ((ev_tb ev_tX13_switches, 4, 13, false, false, 0, none, []), yX13_switches, cX13_switches, 11024, 1014),
  ((ev_tb ev_tX13_group, 3, 13, false, false, 1, none, []), yX13_group, cX13_group, 11016, 1014)]
def ev_rc13 : List ev_Rc := [((ev_tb ev_tX13_includes, 4, 13, false, false, 1, none, []), yX13_includes, cX13_includes, 11020, 1014),
  ((ev_tb ev_tX13_asks, 5, 13, false, false, 0, none, []), yX13_asks, cX13_asks, 11012, 1014),
  ((ev_tb ev_tX13_verbs, 3, 13, false, false, 0, none, []), yX13_verbs, cX13_verbs, 11032, 1014),
  ((ev_tb ev_tX13_reads, 4, 13, false, false, 0, none, []), yX13_reads, cX13_reads, 10162, 1014),
  ((ev_tb ev_tX13_checks, 3, 13, false, false, 0, none, []), yX13_checks, cX13_checks, 11045, 1014),
  ((ev_tb ev_tX13_readsAll, 3, 13, false, false, 1, some .int, []), yX13_readsAll, cX13_readsAll, 10142, 1014),
  ((ev_tb ev_tX13_capped, 2, 13, false, true, 1, some .int, []), yX13_capped, cX13_capped, 11063, 1014),
  ((ev_tb ev_tX13_isPart, 1, 13, false, true, 1, some .boolean, []), yX13_isPart, cX13_isPart, 11060, 1014),
  ((ev_tb ev_tX13_facts, 14, 13, false, false, 1, none, []), yX13_facts, cX13_facts, 11057, 1014),
  ((ev_tb ev_tX13_enginesOf, 6, 13, false, false, 1, some .int, []), yX13_enginesOf, cX13_enginesOf, 11070, 1014),
  ((ev_tb ev_tX13_keeps, 5, 13, false, false, 1, none, []), yX13_keeps, cX13_keeps, 11053, 1014),
  ((ev_tb ev_tX13_part, 4, 13, false, false, 1, some .int, []), yX13_part, cX13_part, 10135, 1014),
  ((ev_tb ev_tX13_pattern, 1, 13, false, false, 0, some .int, []), yX13_pattern, cX13_pattern, 11049, 1014),
  ((ev_tb ev_tX13_isPattern, 2, 13, false, false, 1, some .boolean, []), yX13_isPattern, cX13_isPattern, 11098, 1014),
  ((ev_tb ev_tX13_groups, 2, 13, false, false, 1, some .int, []), yX13_groups, cX13_groups, 11094, 1014),
  ((ev_tb ev_tX13_least, 2, 13, false, false, 1, some .int, []), yX13_least, cX13_least, 11102, 1014),
  ((ev_tb ev_tX13_marksBegins, 10, 13, false, false, 2, none, []), yX13_marksBegins, cX13_marksBegins, 11110, 1014),
  ((ev_tb ev_tX13_begins, 3, 13, false, false, 2, some .boolean, []), yX13_begins, cX13_begins, 11106, 1014),
  ((ev_tb ev_tX13_only, 5, 13, false, false, 1, some .int, []), yX13_only, cX13_only, 11121, 1014),
  ((ev_tb ev_tX13_literal, 13, 13, false, false, 2, some .int, []), yX13_literal, cX13_literal, 11117, 1014)]
def ev_rc14 : List ev_Rc := [((ev_tb ev_tX13_marksJust, 11, 13, false, false, 2, none, []), yX13_marksJust, cX13_marksJust, 11133, 1014),
  ((ev_tb ev_tX13_isJust, 3, 13, false, false, 2, some .boolean, []), yX13_isJust, cX13_isJust, 11137, 1014),
  ((ev_tb ev_tX13_isEndless, 2, 13, false, false, 1, some .boolean, []), yX13_isEndless, cX13_isEndless, 11145, 1014),
  ((ev_tb ev_tX13_lays, 5, 13, false, false, 1, none, []), yX13_lays, cX13_lays, 11129, 1014),
  ((ev_tb ev_tX13_isShut, 2, 13, false, false, 1, some .boolean, []), yX13_isShut, cX13_isShut, 11149, 1014),
  ((ev_tb ev_tX13_isRunning, 10, 13, false, false, 2, some .boolean, []), yX13_isRunning, cX13_isRunning, 11141, 1014),
  ((ev_tb ev_tX13_isOpen, 5, 13, false, false, 2, some .boolean, []), yX13_isOpen, cX13_isOpen, 11153, 1014),
  ((ev_tb ev_tX13_runaway, 4, 13, false, false, 1, some .int, []), yX13_runaway, cX13_runaway, 11125, 1014),
  ((ev_tb ev_tX13_loads, 3, 13, false, false, 1, none, []), yX13_loads, cX13_loads, 11205, 1014),
  ((ev_tb ev_tX13_isWordAt, 2, 13, false, false, 1, some .boolean, []), yX13_isWordAt, cX13_isWordAt, 12005, 1014),
  ((ev_tb ev_tX13_step1, 1, 13, false, false, 0, none, []), yX13_step1, cX13_step1, 11229, 1014),
  ((ev_tb ev_tX13_frame, 7, 13, false, false, 6, some .int, []), yX13_frame, cX13_frame, 11217, 1014),
  ((ev_tb ev_tX13_chooses, 4, 13, false, false, 3, none, []), yX13_chooses, cX13_chooses, 11233, 1014),
  ((ev_tb ev_tX13_returns, 2, 13, false, false, 1, none, []), yX13_returns, cX13_returns, 12033, 1014),
  ((ev_tb ev_tX13_entry, 3, 13, false, false, 1, some .int, []), yX13_entry, cX13_entry, 12013, 1014),
  ((ev_tb ev_tX13_isEdge, 6, 13, false, false, 1, some .boolean, []), yX13_isEdge, cX13_isEdge, 12001, 1014),
  ((ev_tb ev_tX13_passes, 9, 13, false, false, 1, some .boolean, []), yX13_passes, cX13_passes, 12009, 1014),
  ((ev_tb ev_tX13_looksBehind, 3, 13, false, false, 2, none, []), yX13_looksBehind, cX13_looksBehind, 12017, 1014),
  ((ev_tb ev_tX13_shutsIn, 5, 13, false, false, 4, none, []), yX13_shutsIn, cX13_shutsIn, 11225, 1014),
  ((ev_tb ev_tX13_atomOf, 5, 13, false, false, 1, none, []), yX13_atomOf, cX13_atomOf, 11237, 1014)]
def ev_rc15 : List ev_Rc := [((ev_tb ev_tX13_round, 3, 13, false, false, 2, none, []), yX13_round, cX13_round, 12037, 1014),
  ((ev_tb ev_tX13_repeatOf, 3, 13, false, false, 1, none, []), yX13_repeatOf, cX13_repeatOf, 12041, 1014),
  ((ev_tb ev_tX13_rowOf, 3, 13, false, false, 2, none, []), yX13_rowOf, cX13_rowOf, 12021, 1014),
  ((ev_tb ev_tX13_itemOf, 2, 13, false, false, 1, none, []), yX13_itemOf, cX13_itemOf, 11221, 1014),
  ((ev_tb ev_tX13_proceeds, 5, 13, false, false, 0, none, []), yX13_proceeds, cX13_proceeds, 12025, 1014),
  ((ev_tb ev_tX13_fallsBack, 8, 13, false, false, 0, some .int, []), yX13_fallsBack, cX13_fallsBack, 12029, 1014),
  ((ev_tb ev_tX13_tries, 5, 13, false, false, 2, some .int, []), yX13_tries, cX13_tries, 11213, 1014),
  ((ev_tb ev_tX13_keepsGroups, 4, 13, false, false, 1, none, []), yX13_keepsGroups, cX13_keepsGroups, 12045, 1014),
  ((ev_tb ev_tX13_searches, 6, 13, false, false, 3, some .int, []), yX13_searches, cX13_searches, 11209, 1014),
  ((ev_tb ev_tX13_emits, 6, 13, false, false, 4, some .int, []), yX13_emits, cX13_emits, 11082, 1014),
  ((ev_tb ev_tX13_asks1, 4, 13, false, false, 3, none, []), yX13_asks1, cX13_asks1, 11078, 1014),
  ((ev_tb ev_tX13_copies, 5, 13, false, false, 3, none, []), yX13_copies, cX13_copies, 11086, 1014),
  ((ev_tb ev_tX13_patches, 4, 13, false, false, 3, none, []), yX13_patches, cX13_patches, 11090, 1014),
  ((ev_tb ev_tX13_writes, 7, 13, false, false, 1, none, []), yX13_writes, cX13_writes, 11074, 1014),
  ((ev_tb ev_tX13_runs, 10, 13, false, false, 2, some .boolean, []), yX13_runs, cX13_runs, 12066, 1014),
  ((ev_tb ev_tX13_finds, 5, 13, false, false, 2, some .boolean, []), yX13_finds, cX13_finds, 12062, 1014),
  ((ev_tb ev_tX13_marksEnds, 8, 13, false, false, 1, none, []), yX13_marksEnds, cX13_marksEnds, 11181, 1014),
  ((ev_tb ev_tX13_addsThread, 8, 13, false, false, 3, none, []), yX13_addsThread, cX13_addsThread, 11177, 1014),
  ((ev_tb ev_tX13_threadsOf, 10, 13, false, false, 1, some .int, []), yX13_threadsOf, cX13_threadsOf, 11173, 1014),
  ((ev_tb ev_tX13_tells, 5, 13, false, false, 1, some .int, []), yX13_tells, cX13_tells, 11169, 1014)]
def ev_rc16 : List ev_Rc := [((ev_tb ev_tX13_isStream, 2, 13, false, false, 1, some .boolean, []), yX13_isStream, cX13_isStream, 11165, 1014),
  ((ev_tb ev_tX13_stream, 3, 13, false, false, 2, some .int, []), yX13_stream, cX13_stream, 11157, 1014),
  ((ev_tb ev_tX13_feed, 3, 13, false, false, 1, some .int, []), yX13_feed, cX13_feed, 11161, 1014),
  ((ev_tb ev_tX13_finish, 2, 13, false, false, 1, some .int, []), yX13_finish, cX13_finish, 11185, 1014),
  ((ev_tb ev_tX13_told, 2, 13, false, false, 1, some .int, []), yX13_told, cX13_told, 11189, 1014),
  ((ev_tb ev_tX13_isBuffer, 2, 13, false, false, 1, some .boolean, []), yX13_isBuffer, cX13_isBuffer, 11201, 1014),
  ((ev_tb ev_tX13_isAt, 3, 13, false, false, 2, some .boolean, []), yX13_isAt, cX13_isAt, 11197, 1014),
  ((ev_tb ev_tX13_tellsGroup, 3, 13, false, false, 2, some .int, []), yX13_tellsGroup, cX13_tellsGroup, 12049, 1014),
  ((ev_tb ev_tX13_find, 5, 13, false, false, 4, some .int, []), yX13_find, cX13_find, 11193, 1014),
  ((ev_tb ev_tX13_anew, 5, 13, false, false, 4, some .int, []), yX13_anew, cX13_anew, 12053, 1014),
  ((ev_tb ev_tX13_by, 6, 13, false, false, 5, some .int, []), yX13_by, cX13_by, 12058, 1014),
  ((ev_tb ev_tX13_steps, 4, 13, false, false, 3, some .int, []), yX13_steps, cX13_steps, 12070, 1014),
  ((ev_tb ev_tX13_back, 4, 13, false, false, 3, some .int, []), yX13_back, cX13_back, 12074, 1014),
  ((ev_tb ev_tX13_behindOf, 2, 13, false, false, 0, some .int, []), yX13_behindOf, cX13_behindOf, 12082, 1014),
  ((ev_tb ev_tX13_matches, 6, 13, false, false, 2, some .int, []), yX13_matches, cX13_matches, 12078, 1014),
  ((ev_tb ev_tX13_match, 6, 13, false, false, 3, some .int, []), yX13_match, cX13_match, 12086, 1014),
  ((ev_tb ev_tX13_isTemplate, 8, 13, false, false, 0, some .boolean, []), yX13_isTemplate, cX13_isTemplate, 12094, 1014),
  ((ev_tb ev_tX13_template, 2, 13, false, false, 0, some .int, []), yX13_template, cX13_template, 12090, 1014),
  ((ev_tb ev_tX13_puts, 3, 13, false, false, 2, none, []), yX13_puts, cX13_puts, 12147, 1014),
  ((ev_tb ev_tX13_hasGroup, 3, 13, false, false, 2, some .boolean, []), yX13_hasGroup, cX13_hasGroup, 12143, 1014)]
def ev_rc17 : List ev_Rc := [((ev_tb ev_tX13_fills, 15, 13, false, false, 3, none, []), yX13_fills, cX13_fills, 12139, 1014),
  ((ev_tb ev_tX13_edits, 11, 13, false, false, 5, none, []), yX13_edits, cX13_edits, 12111, 1014),
  ((ev_tb ev_tX13_writesLetter, 2, 13, false, false, 1, none, []), yX13_writesLetter, cX13_writesLetter, 12107, 1014),
  ((ev_tb ev_tX13_edit, 9, 13, false, false, 6, none, []), yX13_edit, cX13_edit, 12102, 1014),
  ((ev_tb ev_tX13_gathers, 1, 13, false, false, 0, none, []), yX13_gathers, cX13_gathers, 12119, 1014),
  ((ev_tb ev_tX13_ends1, 1, 13, false, false, 0, none, []), yX13_ends1, cX13_ends1, 12115, 1014),
  ((ev_tb ev_tX13_fill, 2, 13, false, false, 1, some .int, []), yX13_fill, cX13_fill, 12098, 1014),
  ((ev_tb ev_tX13_size, 2, 13, false, false, 1, some .int, []), yX13_size, cX13_size, 12123, 1014),
  ((ev_tb ev_tX13_sign, 3, 13, false, false, 2, some .char, []), yX13_sign, cX13_sign, 12127, 1014),
  ((ev_tb ev_tX13_prepares, 8, 13, false, false, 3, some .int, []), yX13_prepares, cX13_prepares, 12135, 1014),
  ((ev_tb ev_tX13_replaces, 4, 13, false, false, 2, none, []), yX13_replaces, cX13_replaces, 12151, 1014),
  ((ev_tb ev_tX13_replace, 7, 13, false, false, 4, some .int, []), yX13_replace, cX13_replace, 12131, 1014),
  ((ev_tb ev_tX13_mark, 4, 13, false, false, 3, some .int, []), yX13_mark, cX13_mark, 12155, 1014),
  ((ev_tb ev_tX13_place, 2, 13, false, false, 1, some .int, []), yX13_place, cX13_place, 12159, 1014),
  ((ev_tb ev_tX13_open, 1, 13, false, false, 0, some .int, []), yX13_open, cX13_open, 12163, 1014),
  ((ev_tb ev_tX13_shut, 1, 13, false, false, 0, some .int, []), yX13_shut, cX13_shut, 12167, 1014),
  ((ev_tb ev_tX13_editsOf, 2, 13, false, false, 1, some .int, []), yX13_editsOf, cX13_editsOf, 12175, 1014),
  ((ev_tb ev_tX13_undo, 6, 13, false, false, 0, some .int, []), yX13_undo, cX13_undo, 12171, 1014),
  ((ev_tb ev_tX13_redo, 6, 13, false, false, 0, some .int, []), yX13_redo, cX13_redo, 12179, 1014),
  ((ev_tb ev_tX13_record, 1, 13, false, false, 0, some .int, []), yX13_record, cX13_record, 12183, 1014)]
def ev_rc18 : List ev_Rc := [((ev_tb ev_tX13_tries1, 7, 13, false, false, 1, none, []), yX13_tries1, cX13_tries1, 12191, 1014),
  ((ev_tb ev_tX13_play, 6, 13, false, false, 2, some .int, []), yX13_play, cX13_play, 12187, 1014),
  ((ev_tb ev_tJ13_bitCount_95d88, 2, 16, false, true, 1, some .int, []), yJ13_bitCount_95d88, cJ13_bitCount_95d88, 5179, 1023),
  ((ev_tb ev_tJ7_fill_53178, 4, 15, false, true, 2, none, []), yJ7_fill_53178, cJ7_fill_53178, 4100, 1020),
  ((ev_tb ev_tL_type, 4, 14, false, true, 3, some .int, [((0, 9, 12, 13), "java/lang/IllegalArgumentException"), ((0, 9, 15, 15), "java/lang/IllegalStateException")]), yL_type, cL_type, 3218, 1000),
  ((ev_tb ev_tL_part, 4, 14, false, true, 3, some .int, [((0, 9, 12, 13), "java/lang/IllegalArgumentException")]), yL_part, cL_part, 4081, 1000),
  ((ev_tb ev_tL_pattern, 3, 14, false, true, 2, some .int, [((0, 8, 11, 15), "java/lang/IllegalStateException")]), yL_pattern, cL_pattern, 5102, 1000),
  ((ev_tb ev_tL_template, 3, 14, false, true, 2, some .int, [((0, 8, 11, 15), "java/lang/IllegalStateException")]), yL_template, cL_template, 6008, 1000),
  ((ev_tb ev_tL_groups, 4, 14, false, true, 3, some .int, [((0, 9, 12, 30), "java/lang/IndexOutOfBoundsException")]), yL_groups, cL_groups, 6027, 1000),
  ((ev_tb ev_tL_least, 4, 14, false, true, 3, some .int, [((0, 9, 12, 30), "java/lang/IndexOutOfBoundsException")]), yL_least, cL_least, 6055, 1000),
  ((ev_tb ev_tL_begins, 5, 14, false, true, 4, some .int, [((0, 17, 20, 30), "java/lang/IndexOutOfBoundsException"), ((0, 17, 24, 13), "java/lang/IllegalArgumentException")]), yL_begins, cL_begins, 6062, 1000),
  ((ev_tb ev_tL_literal, 5, 14, false, true, 4, some .int, [((0, 10, 13, 30), "java/lang/IndexOutOfBoundsException"), ((0, 10, 17, 13), "java/lang/IllegalArgumentException")]), yL_literal, cL_literal, 6071, 1000),
  ((ev_tb ev_tL_runaway, 4, 14, false, true, 3, some .int, [((0, 9, 12, 30), "java/lang/IndexOutOfBoundsException")]), yL_runaway, cL_runaway, 6080, 1000),
  ((ev_tb ev_tL_find, 7, 14, false, true, 6, some .int, [((0, 14, 17, 30), "java/lang/IndexOutOfBoundsException")]), yL_find, cL_find, 6087, 1000),
  ((ev_tb ev_tL_anew, 7, 14, false, true, 6, some .int, [((0, 14, 17, 30), "java/lang/IndexOutOfBoundsException")]), yL_anew, cL_anew, 6232, 1000),
  ((ev_tb ev_tL_by, 8, 14, false, true, 7, some .int, [((0, 16, 19, 30), "java/lang/IndexOutOfBoundsException"), ((0, 16, 23, 13), "java/lang/IllegalArgumentException")]), yL_by, cL_by, 6239, 1000),
  ((ev_tb ev_tL_steps, 6, 14, false, true, 5, some .int, [((0, 12, 15, 30), "java/lang/IndexOutOfBoundsException")]), yL_steps, cL_steps, 7049, 1000),
  ((ev_tb ev_tL_back, 6, 14, false, true, 5, some .int, [((0, 12, 15, 30), "java/lang/IndexOutOfBoundsException")]), yL_back, cL_back, 7057, 1000),
  ((ev_tb ev_tL_matches, 5, 14, false, true, 4, some .int, [((0, 10, 13, 30), "java/lang/IndexOutOfBoundsException")]), yL_matches, cL_matches, 7068, 1000),
  ((ev_tb ev_tL_match, 6, 14, false, true, 5, some .int, [((0, 12, 15, 30), "java/lang/IndexOutOfBoundsException")]), yL_match, cL_match, 7080, 1000)]
def ev_rc19 : List ev_Rc := [((ev_tb ev_tL_fill, 4, 14, false, true, 3, some .int, [((0, 9, 12, 30), "java/lang/IndexOutOfBoundsException"), ((0, 9, 15, 15), "java/lang/IllegalStateException")]), yL_fill, cL_fill, 7089, 1000),
  ((ev_tb ev_tL_size, 4, 14, false, true, 3, some .int, [((0, 9, 12, 30), "java/lang/IndexOutOfBoundsException")]), yL_size, cL_size, 7151, 1000),
  ((ev_tb ev_tL_sign, 5, 14, false, true, 4, some .int, [((0, 10, 13, 30), "java/lang/IndexOutOfBoundsException")]), yL_sign, cL_sign, 7158, 1000),
  ((ev_tb ev_tL_replace, 7, 14, false, true, 6, some .int, [((0, 14, 17, 30), "java/lang/IndexOutOfBoundsException"), ((0, 14, 21, 13), "java/lang/IllegalArgumentException"), ((0, 14, 25, 15), "java/lang/IllegalStateException")]), yL_replace, cL_replace, 7166, 1000),
  ((ev_tb ev_tL_mark, 6, 14, false, true, 5, some .int, [((0, 12, 15, 30), "java/lang/IndexOutOfBoundsException"), ((0, 12, 19, 15), "java/lang/IllegalStateException")]), yL_mark, cL_mark, 8010, 1000),
  ((ev_tb ev_tL_place, 4, 14, false, true, 3, some .int, [((0, 9, 12, 30), "java/lang/IndexOutOfBoundsException")]), yL_place, cL_place, 8023, 1000),
  ((ev_tb ev_tL_open, 3, 14, false, true, 2, some .int, [((0, 8, 11, 15), "java/lang/IllegalStateException")]), yL_open, cL_open, 8031, 1000),
  ((ev_tb ev_tL_shut, 3, 14, false, true, 2, some .int, [((0, 8, 11, 15), "java/lang/IllegalStateException")]), yL_shut, cL_shut, 8039, 1000),
  ((ev_tb ev_tL_undo, 3, 14, false, true, 2, some .int, [((0, 8, 11, 15), "java/lang/IllegalStateException")]), yL_undo, cL_undo, 8047, 1000),
  ((ev_tb ev_tL_redo, 3, 14, false, true, 2, some .int, [((0, 8, 11, 15), "java/lang/IllegalStateException")]), yL_redo, cL_redo, 8063, 1000),
  ((ev_tb ev_tL_record, 3, 14, false, true, 2, some .int, [((0, 8, 11, 15), "java/lang/IllegalStateException")]), yL_record, cL_record, 8074, 1000),
  ((ev_tb ev_tL_play, 5, 14, false, true, 4, some .int, [((0, 10, 13, 30), "java/lang/IndexOutOfBoundsException"), ((0, 10, 17, 15), "java/lang/IllegalStateException")]), yL_play, cL_play, 8082, 1000),
  ((ev_tb ev_tL_stream, 5, 14, false, true, 4, some .int, [((0, 10, 13, 30), "java/lang/IndexOutOfBoundsException"), ((0, 10, 17, 15), "java/lang/IllegalStateException")]), yL_stream, cL_stream, 8091, 1000),
  ((ev_tb ev_tL_feed, 4, 14, false, true, 3, some .int, [((0, 9, 12, 30), "java/lang/IndexOutOfBoundsException"), ((0, 9, 15, 15), "java/lang/IllegalStateException")]), yL_feed, cL_feed, 8105, 1000),
  ((ev_tb ev_tL_finish, 4, 14, false, true, 3, some .int, [((0, 9, 12, 30), "java/lang/IndexOutOfBoundsException"), ((0, 9, 15, 15), "java/lang/IllegalStateException")]), yL_finish, cL_finish, 8130, 1000),
  ((ev_tb ev_tL_told, 4, 14, false, true, 3, some .int, [((0, 9, 12, 30), "java/lang/IndexOutOfBoundsException")]), yL_told, cL_told, 8138, 1000)]
def ev_rcs : List (List ev_Rc) := [ev_rc0, ev_rc1, ev_rc2, ev_rc3, ev_rc4, ev_rc5, ev_rc6, ev_rc7, ev_rc8, ev_rc9, ev_rc10, ev_rc11, ev_rc12, ev_rc13, ev_rc14, ev_rc15, ev_rc16, ev_rc17, ev_rc18, ev_rc19]
def ev_rec (mi : Nat) : Option ev_Rc := match ev_rcs[mi / 20]? with
  | some l => l[mi % 20]?
  | none => none
def ev_P (mi : Nat) : Option ev_M := match ev_rec mi with
  | some q => some q.1
  | none => none
def ev_Y (mi : Nat) : MethodName := match ev_rec mi with
  | some q => q.2.1
  | none => ⟨"", "", ""⟩
def ev_Bc (mi : Nat) : ByteArray := match ev_rec mi with
  | some q => q.2.2.1
  | none => ⟨#[]⟩
def ev_pt0 : ev_PT := ([[(13, (0, 0, 1, 2161))], [(17, (0, 1, 1, 2162)), (21, (0, 2, 1, 2163)), (25, (0, 3, 1, 2164)), (29, (0, 5, 1, 2168))], [(35, (0, 6, 1, 2169)), (39, (0, 7, 1, 2170)), (42, (0, 8, 1, 2171)), (46, (0, 4, 0, 2166))], [(50, (0, 14, 0, 2179)), (54, (0, 11, 0, 2174)), (57, (0, 12, 0, 2175)), (60, (0, 13, 0, 2177))], [(74, (0, 9, 0, 2172))], [(82, (0, 10, 0, 2173))]], [[(11, (10, 2155, 1034, 1002))]], [[(11, (.object "MendBench$Text", 2155))], [(28, (.array .int, 2156))], [(33, (.array .byte, 2158))]], [[], [], [], [], [(77, (.int (262144), 7111))], [], [], [(115, (.int (524288), 7105)), (116, (.int (1048576), 7106))]])
def ev_lt0 : List (List (Nat × (Nat × Nat × Nat × Nat × Nat × Nat × Nat))) := [[(3, (6, 0, 0, 2154, 1031, 1032, 0))], [], [(45, (4, 150, 0, 0, 1036, 0, 0))], [(63, (0, 1, 1, 7100, 6097, 6098, 0))], [(67, (0, 11, 1, 7101, 7103, 92, 0)), (71, (0, 12, 0, 7107, 7109, 93, 0)), (78, (0, 13, 2, 7112, 7114, 94, 0))], [(85, (0, 151, 1, 7116, 4158, 4159, 0)), (89, (0, 15, 2, 7117, 7119, 95, 0)), (92, (0, 7, 0, 7121, 7123, 96, 0)), (95, (0, 8, 0, 8057, 8059, 110, 0))], [(98, (0, 14, 1, 7125, 7127, 97, 0)), (101, (0, 9, 4, 7129, 7131, 98, 0)), (105, (0, 16, 1, 7133, 7135, 99, 0)), (108, (0, 154, 5, 7137, 7138, 7139, 0))], [(112, (0, 10, 4, 7141, 7143, 100, 0))]]
def ev_pt1 : ev_PT := ([[(11, (1, 0, 1, 1070)), (15, (1, 1, 1, 1071))], [(18, (1, 2, 1, 1072)), (21, (1, 3, 1, 1073)), (24, (1, 4, 1, 1074)), (28, (1, 5, 1, 1075)), (31, (1, 6, 1, 1076))], [(35, (1, 8, 0, 1078)), (39, (1, 9, 0, 1079)), (43, (1, 10, 0, 1080)), (47, (1, 7, 0, 1077))], [], [], [], [(97, (1, 11, 0, 1082)), (103, (1, 12, 0, 1084))]], [], [], [[], [], [], [], [], [(93, (.long (-1), 5021)), (95, (.long (-4294966272), 5022))], [(101, (.long (9223372036854775807), 5023))]])
def ev_lt1 : List (List (Nat × (Nat × Nat × Nat × Nat × Nat × Nat × Nat))) := [[(3, (6, 0, 0, 1069, 1031, 1032, 0))], [], [], [(50, (0, 19, 0, 5000, 5002, 27, 0)), (56, (0, 21, 0, 5009, 5011, 29, 0)), (59, (0, 20, 0, 5004, 5006, 28, 0)), (62, (0, 151, 1, 5008, 4158, 4159, 0))], [(66, (0, 25, 0, 5013, 5015, 30, 0)), (69, (0, 23, 1, 5028, 5030, 33, 0)), (73, (5, 216, 1, 1, 5033, 0, 0)), (76, (5, 217, 1, 2, 5036, 0, 0))], [(80, (5, 218, 1, 3, 5043, 0, 0)), (83, (0, 22, 2, 5024, 5026, 32, 0)), (87, (0, 26, 0, 5048, 5050, 34, 0)), (90, (0, 24, 0, 5017, 5019, 31, 0))], [(106, (0, 27, 0, 5052, 5054, 35, 0)), (110, (5, 207, 1, 4, 3229, 0, 0))], [(113, (5, 215, 1, 5, 5061, 0, 0)), (117, (5, 211, 1, 6, 5057, 0, 0))]]
def ev_pt2 : ev_PT := ([[(11, (2, 0, 1, 1205))], [(17, (2, 1, 1, 1206)), (20, (2, 2, 1, 1207)), (24, (2, 3, 1, 1208)), (27, (2, 4, 1, 1209)), (30, (2, 5, 1, 1210))], [(33, (2, 6, 1, 1211)), (36, (2, 7, 1, 1212)), (43, (2, 8, 1, 1213)), (47, (2, 9, 0, 1214))], [(51, (5, 11, 0, 2081))], [(67, (5, 16, 0, 2094)), (70, (5, 17, 0, 2096)), (74, (5, 18, 0, 2098))], [(81, (5, 19, 0, 2100)), (91, (5, 14, 0, 2090))], [(98, (5, 15, 0, 2092)), (101, (5, 13, 2, 2088))], [(119, (5, 0, 2, 2036)), (122, (5, 7, 2, 2065)), (125, (5, 8, 2, 2070))], [], [(154, (5, 3, 2, 2050)), (157, (5, 1, 2, 2040))], [(160, (5, 2, 2, 2046)), (174, (5, 4, 2, 2055))], [(180, (5, 20, 2, 2104)), (183, (10, 1, 0, 1049)), (188, (5, 5, 2, 2060)), (191, (5, 6, 2, 2062))]], [[], [], [(40, (10, 1203, 1034, 1002))]], [], [[], [], [], [], [], [], [], [], [(135, (.long (-4294966272), 5127)), (137, (.long (9223372036854775807), 5128))], [], [(163, (.int (1000000), 5135))]])
def ev_lt2 : List (List (Nat × (Nat × Nat × Nat × Nat × Nat × Nat × Nat))) := [[(3, (6, 0, 0, 1202, 1031, 1032, 0))], [], [(42, (4, 150, 0, 7, 1036, 0, 0))], [(55, (0, 31, 1, 5112, 5114, 40, 0)), (59, (0, 60, 0, 5155, 5156, 5157, 0)), (63, (0, 59, 1, 5134, 4119, 4120, 0))], [(77, (2, 30, 2, 5159, 5160, 0, 0))], [(84, (0, 40, 0, 5165, 5167, 47, 0)), (87, (0, 38, 0, 5189, 5191, 49, 0)), (95, (0, 39, 0, 5193, 5195, 50, 0))], [(105, (0, 71, 3, 5197, 5198, 5199, 0)), (111, (5, 214, 3, 8, 5163, 0, 0))], [(115, (0, 35, 2, 5116, 5118, 41, 0))], [(128, (0, 36, 4, 5120, 5122, 42, 0)), (132, (2, 61, 1, 5124, 5125, 0, 0)), (139, (2, 62, 1, 5129, 4135, 0, 0)), (142, (0, 32, 1, 5130, 5132, 43, 0))], [(145, (0, 33, 1, 5143, 5145, 45, 0)), (148, (2, 64, 1, 5147, 4139, 0, 0)), (151, (0, 34, 1, 5148, 5150, 46, 0))], [(164, (9, 0, 2, 5136, 5137, 1022, 5138)), (170, (0, 37, 4, 5139, 5141, 44, 0))], [(177, (2, 63, 1, 5152, 5153, 0, 0)), (184, (0, 65, 1, 5169, 5170, 5171, 0))], [(194, (0, 66, 1, 5173, 5174, 5175, 0)), (197, (0, 152, 1, 5183, 4076, 4077, 0)), (200, (0, 41, 0, 5184, 5186, 48, 0)), (203, (0, 153, 1, 5188, 5094, 5095, 0))]]
def ev_pt3 : ev_PT := ([[(14, (3, 0, 1, 2220))], [(18, (3, 1, 1, 2221)), (21, (3, 2, 1, 2222)), (25, (3, 3, 1, 2223)), (28, (3, 4, 1, 2224)), (31, (3, 5, 1, 2225))], [(34, (3, 6, 1, 2226)), (37, (3, 7, 1, 2227)), (40, (3, 8, 1, 2228)), (47, (3, 9, 0, 2229))], [(51, (3, 10, 0, 2230)), (54, (10, 1, 0, 1047))], [], [(81, (10, 0, 2, 1040))], [], [(123, (3, 11, 0, 2231))]], [[(11, (10, 2218, 1034, 1002))]], [], [])
def ev_lt3 : List (List (Nat × (Nat × Nat × Nat × Nat × Nat × Nat × Nat))) := [[(5, (6, 0, 0, 2217, 1031, 1032, 0)), (13, (4, 150, 0, 9, 1036, 0, 0))], [], [(43, (0, 153, 1, 7182, 5094, 5095, 0))], [(57, (0, 115, 3, 7187, 6106, 6107, 0)), (63, (0, 50, 3, 7188, 7190, 102, 0))], [(67, (0, 117, 0, 7225, 7075, 7076, 0)), (71, (0, 45, 1, 7226, 7228, 107, 0)), (75, (9, 0, 2, 7230, 5137, 1022, 5138))], [(82, (0, 154, 5, 7231, 7138, 7139, 0)), (86, (0, 46, 4, 7232, 7234, 108, 0)), (90, (7, 0, 5, 7236, 5099, 5098, 1021))], [(96, (0, 4, 6, 8002, 7097, 7098, 0)), (102, (0, 3, 0, 8003, 7146, 7147, 0)), (105, (2, 49, 3, 6017, 6018, 0, 0)), (109, (0, 151, 1, 6020, 4158, 4159, 0))], [(113, (5, 211, 1, 10, 5057, 0, 0)), (117, (5, 209, 1, 11, 4087, 0, 0)), (120, (5, 208, 1, 12, 4210, 0, 0)), (126, (10, 0, 2, 7192, 7193, 1022, 7194))], [(129, (0, 118, 1, 7195, 6227, 6228, 0)), (132, (0, 51, 4, 7196, 7198, 103, 0)), (136, (0, 52, 2, 7200, 7202, 104, 0)), (140, (0, 120, 1, 7213, 7214, 7215, 0)), (143, (0, 53, 2, 7217, 7219, 106, 0))], [(147, (0, 54, 1, 7204, 7206, 105, 0)), (150, (0, 119, 1, 7221, 7222, 7223, 0)), (153, (5, 213, 1, 13, 7209, 0, 0)), (156, (5, 212, 1, 14, 6180, 0, 0)), (159, (0, 152, 1, 7212, 4076, 4077, 0))]]
def ev_pt4 : ev_PT := ([], [], [], [])
def ev_lt4 : List (List (Nat × (Nat × Nat × Nat × Nat × Nat × Nat × Nat))) := [[(1, (6, 0, 0, 1120, 1031, 1032, 0))]]
def ev_pt5 : ev_PT := ([[(11, (5, 0, 1, 2034)), (15, (5, 1, 1, 2039))], [(18, (5, 2, 1, 2044)), (21, (5, 3, 1, 2048)), (24, (5, 4, 1, 2053)), (27, (5, 5, 1, 2058)), (30, (5, 6, 1, 2061))], [(33, (5, 7, 1, 2064)), (37, (5, 8, 1, 2069)), (40, (5, 9, 1, 2074)), (43, (5, 10, 1, 2077))], [(49, (5, 13, 1, 2087)), (56, (5, 20, 1, 2102)), (60, (5, 11, 0, 2080))], [(64, (5, 12, 0, 2084))]], [[], [], [(46, (6, 2002, 2003, 1008))], [(53, (10, 2032, 1034, 1002))]], [], [])
def ev_lt5 : List (List (Nat × (Nat × Nat × Nat × Nat × Nat × Nat × Nat))) := [[(3, (6, 0, 0, 2001, 1031, 1032, 0))], [], [], [(48, (4, 69, 0, 15, 2005, 0, 0)), (55, (4, 150, 0, 16, 1036, 0, 0))], [(67, (2, 363, 2, 4098, 4099, 0, 0)), (73, (0, 59, 1, 4137, 4119, 4120, 0)), (77, (2, 362, 1, 5177, 5178, 0, 0))], [(83, (2, 62, 1, 4134, 4135, 0, 0)), (86, (2, 64, 1, 4138, 4139, 0, 0)), (89, (0, 68, 1, 4141, 4143, 6, 0))]]
def ev_pt6 : ev_PT := ([[(11, (6, 0, 1, 2008)), (15, (6, 1, 1, 2010))], [(18, (6, 2, 1, 2012)), (22, (6, 3, 1, 2014)), (25, (6, 4, 1, 2016)), (29, (6, 5, 0, 2018))], [(33, (5, 11, 0, 2082))], [(57, (5, 0, 2, 2035))], [(64, (5, 2, 2, 2045)), (67, (5, 3, 2, 2049)), (73, (5, 4, 2, 2054)), (76, (5, 7, 2, 2066)), (77, (5, 8, 2, 2071))], [(81, (5, 1, 2, 2041))]], [], [], [])
def ev_lt6 : List (List (Nat × (Nat × Nat × Nat × Nat × Nat × Nat × Nat))) := [[(3, (6, 0, 0, 2007, 1031, 1032, 0))], [], [(36, (9, 0, 2, 5201, 5137, 1022, 5138)), (42, (0, 72, 3, 5202, 5204, 51, 0)), (46, (0, 73, 3, 5208, 5210, 52, 0))], [(50, (0, 76, 4, 5212, 5214, 53, 0)), (54, (0, 79, 0, 5238, 6000, 58, 0)), (60, (2, 62, 1, 5206, 4135, 0, 0))], [(70, (0, 59, 1, 5207, 4119, 4120, 0)), (78, (2, 61, 1, 5216, 5125, 0, 0))], [(84, (0, 75, 4, 5217, 5219, 54, 0)), (88, (0, 78, 3, 5221, 5223, 55, 0)), (92, (0, 74, 3, 5234, 5236, 57, 0)), (95, (0, 70, 1, 5230, 5231, 5232, 0))], [(98, (0, 77, 2, 5226, 5228, 56, 0)), (102, (7, 0, 5, 5225, 5099, 5098, 1021)), (108, (0, 80, 1, 6002, 6004, 59, 0))]]
def ev_pt7 : ev_PT := ([[(11, (7, 0, 1, 1150))], [(17, (7, 1, 1, 1151)), (24, (7, 2, 1, 1152)), (30, (7, 3, 1, 1153))], [(34, (7, 4, 1, 1154)), (37, (7, 5, 1, 1155))], [(51, (7, 7, 0, 1157)), (55, (7, 9, 0, 1159)), (59, (7, 12, 0, 1162)), (63, (7, 8, 0, 1158))], [(66, (7, 6, 0, 1156)), (69, (7, 10, 0, 1160)), (72, (7, 11, 0, 1161)), (75, (7, 14, 0, 1164))], [(88, (10, 1, 0, 1048))], [], [(114, (4, 3, 0, 1124))], [(135, (1, 11, 0, 1081)), (139, (1, 12, 0, 1083))], [], [(165, (7, 13, 0, 1163))], [(182, (5, 7, 2, 2067)), (186, (5, 8, 2, 2072)), (189, (4, 7, 0, 1128))], [(192, (5, 4, 2, 2056)), (195, (4, 6, 0, 1127)), (198, (4, 8, 0, 1129)), (201, (5, 3, 2, 2051))], [], [(230, (4, 0, 0, 1121)), (233, (4, 1, 0, 1122)), (236, (4, 2, 0, 1123)), (237, (4, 4, 0, 1125))], [(240, (4, 5, 0, 1126)), (247, (5, 9, 2, 2075))], [], [(274, (5, 12, 0, 2086)), (277, (5, 10, 2, 2079)), (283, (5, 11, 0, 2083)), (284, (5, 0, 2, 2038)), (286, (5, 1, 2, 2043))]], [[(9, (10, 1062, 1034, 1002))], [(21, (1, 1064, 1065, 1004)), (28, (4, 1114, 1116, 1005))]], [[(9, (.object "MendBench$Text", 1062))], [(28, (.object "MendBench$Open", 1114))]], [[], [], [], [], [], [(87, (.int (100000), 4105))], [], [], [], [(149, (.long (-4294966272), 5086)), (151, (.long (-4294967296), 5087)), (153, (.long (9223372036854775807), 5088))]])
def ev_lt7 : List (List (Nat × (Nat × Nat × Nat × Nat × Nat × Nat × Nat))) := [[(3, (6, 0, 0, 1061, 1031, 1032, 0))], [(23, (4, 17, 0, 17, 1067, 0, 0))], [(41, (4, 55, 0, 18, 1118, 0, 0)), (42, (4, 150, 0, 19, 1036, 0, 0)), (43, (5, 209, 1, 20, 4087, 0, 0)), (47, (0, 153, 1, 5093, 5094, 5095, 0))], [], [(78, (0, 57, 0, 4094, 4095, 4096, 0))], [(83, (0, 98, 3, 4101, 4103, 1, 0)), (91, (0, 100, 0, 4106, 4108, 2, 0)), (95, (0, 113, 0, 4126, 4128, 5, 0))], [(98, (0, 112, 0, 4145, 4147, 7, 0)), (101, (0, 85, 0, 4149, 4151, 8, 0)), (104, (0, 151, 1, 4157, 4158, 4159, 0)), (108, (0, 84, 1, 4153, 4155, 9, 0)), (111, (0, 102, 0, 4161, 4163, 10, 0))], [(118, (0, 101, 0, 4212, 4214, 21, 0)), (121, (0, 92, 2, 4216, 4218, 22, 0)), (125, (0, 94, 0, 4224, 4226, 24, 0))], [(128, (0, 86, 1, 4232, 4234, 26, 0)), (131, (0, 18, 3, 4236, 4237, 4238, 0)), (142, (0, 90, 2, 5065, 5067, 36, 0))], [(146, (0, 96, 0, 5069, 5071, 37, 0)), (155, (0, 88, 3, 4169, 4171, 12, 0)), (159, (0, 89, 1, 5076, 5078, 38, 0))], [(162, (0, 87, 0, 4173, 4175, 13, 0)), (168, (0, 58, 3, 4114, 4115, 4116, 0)), (172, (0, 91, 1, 4122, 4124, 4, 0)), (175, (5, 215, 1, 21, 5061, 0, 0))], [(179, (0, 59, 1, 4118, 4119, 4120, 0))], [(204, (0, 93, 1, 4220, 4222, 23, 0)), (207, (0, 95, 0, 4228, 4230, 25, 0))], [(211, (5, 208, 1, 22, 4210, 0, 0)), (214, (5, 216, 1, 23, 5033, 0, 0)), (217, (5, 217, 1, 24, 5036, 0, 0)), (221, (5, 218, 1, 25, 5043, 0, 0))], [(224, (0, 97, 0, 5081, 5083, 39, 0)), (227, (5, 211, 1, 26, 5057, 0, 0))], [(243, (0, 99, 1, 4110, 4112, 3, 0)), (250, (0, 108, 0, 4165, 4167, 11, 0)), (253, (0, 104, 0, 4177, 4179, 14, 0))], [(256, (0, 103, 3, 4181, 4183, 15, 0)), (259, (0, 105, 0, 4185, 4187, 16, 0)), (262, (0, 106, 0, 4190, 4192, 17, 0)), (265, (0, 111, 0, 4194, 4196, 18, 0)), (268, (0, 109, 0, 4198, 4200, 19, 0)), (271, (0, 107, 0, 4205, 4207, 20, 0))], [(280, (2, 110, 1, 4202, 4203, 0, 0))], [(288, (0, 67, 0, 4130, 4131, 4132, 0))]]
def ev_pt8 : ev_PT := ([[(14, (8, 6, 1, 3030))], [(18, (8, 8, 1, 3032)), (27, (8, 1, 0, 3025)), (31, (10, 1, 0, 1045))], [(39, (8, 10, 0, 3034)), (43, (8, 11, 0, 3035)), (46, (8, 12, 0, 3036))], [(49, (8, 13, 0, 3037)), (58, (8, 0, 0, 3024)), (62, (5, 10, 2, 2078))], [(67, (8, 14, 0, 3038)), (70, (8, 3, 0, 3027)), (73, (8, 4, 0, 3028)), (76, (8, 5, 0, 3029)), (79, (8, 7, 0, 3031))], [(82, (8, 9, 0, 3033)), (93, (5, 5, 2, 2059))], [(96, (8, 2, 0, 3026))], [], [(132, (5, 0, 2, 2037)), (139, (5, 6, 2, 2063))], [(152, (5, 7, 2, 2068)), (156, (5, 8, 2, 2073))], [], [(178, (5, 4, 2, 2057)), (184, (5, 1, 2, 2042)), (187, (5, 2, 2, 2047))], [(193, (5, 3, 2, 2052)), (196, (5, 9, 2, 2076))]], [], [], [[(13, (.int (76072), 3023))], [], [], [], [], [], [(99, (.int (100000000), 6119))]])
def ev_lt8 : List (List (Nat × (Nat × Nat × Nat × Nat × Nat × Nat × Nat))) := [[(7, (6, 0, 0, 3022, 1031, 1032, 0))], [(21, (0, 121, 2, 6109, 6111, 63, 0))], [(35, (0, 122, 1, 6113, 6115, 64, 0))], [(52, (0, 129, 1, 6175, 6177, 76, 0)), (55, (0, 151, 1, 6169, 4158, 4159, 0))], [], [(85, (0, 60, 0, 6117, 5156, 5157, 0)), (89, (0, 59, 1, 6118, 4119, 4120, 0))], [(100, (0, 131, 0, 6120, 6122, 65, 0)), (103, (0, 136, 1, 6148, 6150, 72, 0)), (106, (0, 141, 1, 6210, 6212, 84, 0)), (109, (0, 144, 1, 6222, 6224, 87, 0))], [(112, (0, 126, 1, 6144, 6146, 71, 0)), (115, (0, 125, 4, 6156, 6158, 74, 0)), (119, (0, 132, 3, 6124, 6126, 66, 0)), (123, (0, 135, 1, 6128, 6130, 67, 0)), (126, (0, 133, 1, 6132, 6134, 68, 0))], [(129, (0, 134, 1, 6140, 6142, 70, 0)), (135, (0, 123, 0, 6136, 6138, 69, 0)), (142, (0, 124, 4, 6152, 6154, 73, 0))], [(145, (2, 61, 1, 6160, 5125, 0, 0)), (148, (0, 155, 2, 6161, 6162, 6163, 0)), (159, (5, 214, 3, 27, 5163, 0, 0))], [(163, (0, 137, 1, 6171, 6173, 75, 0)), (166, (0, 138, 1, 6182, 6184, 77, 0)), (169, (0, 139, 1, 6186, 6188, 78, 0)), (172, (0, 130, 3, 6194, 6196, 80, 0)), (175, (0, 143, 1, 6198, 6200, 81, 0))], [(181, (0, 140, 1, 6202, 6204, 82, 0)), (190, (5, 212, 1, 28, 6180, 0, 0))], [(199, (0, 127, 0, 6190, 6192, 79, 0)), (202, (0, 128, 0, 6206, 6208, 83, 0)), (205, (0, 145, 1, 6214, 6216, 85, 0))], [(208, (0, 142, 1, 6218, 6220, 86, 0))]]
def ev_pt9 : ev_PT := ([[(12, (9, 0, 1, 3139))], [(23, (9, 1, 1, 3141)), (27, (9, 2, 0, 3142))], [(39, (10, 1, 0, 1046))], [(54, (9, 3, 0, 3143)), (57, (11, 15, 0, 3093))]], [[(9, (10, 3135, 1034, 1002))], [(18, (11, 3137, 3072, 1012))]], [], [])
def ev_lt9 : List (List (Nat × (Nat × Nat × Nat × Nat × Nat × Nat × Nat))) := [[(3, (6, 0, 0, 3134, 1031, 1032, 0)), (11, (4, 150, 0, 29, 1036, 0, 0))], [(20, (1, 156, 1, 3138, 3074, 0, 0)), (31, (0, 158, 1, 8101, 7014, 7015, 0))], [(35, (0, 160, 3, 8102, 7018, 7019, 0)), (43, (0, 151, 1, 8120, 4158, 4159, 0)), (47, (0, 152, 1, 8121, 4076, 4077, 0))], [(50, (0, 161, 2, 8122, 7038, 7039, 0)), (58, (0, 159, 1, 8127, 7044, 7045, 0))]]
def ev_pt10 : ev_PT := ([[(11, (10, 0, 1, 1039)), (15, (10, 1, 0, 1042))]], [], [], [])
def ev_lt10 : List (List (Nat × (Nat × Nat × Nat × Nat × Nat × Nat × Nat))) := [[(3, (6, 0, 0, 1038, 1031, 1032, 0))], [(19, (7, 0, 5, 5097, 5099, 5098, 1021)), (25, (0, 151, 1, 6165, 4158, 4159, 0)), (29, (5, 210, 1, 30, 6167, 0, 0))]]
def ev_pt11 : ev_PT := ([[(11, (11, 2, 0, 3079))], [(17, (11, 3, 0, 3080)), (20, (11, 6, 1, 3083)), (23, (11, 8, 1, 3085)), (26, (11, 9, 1, 3086)), (29, (11, 0, 1, 3077))], [(33, (11, 1, 1, 3078)), (36, (11, 12, 1, 3089)), (39, (11, 4, 0, 3081)), (42, (11, 5, 0, 3082))], [(49, (10, 1, 0, 1043)), (58, (11, 14, 0, 3091)), (62, (11, 15, 0, 3092))], [(67, (11, 11, 0, 3088)), (71, (11, 7, 0, 3084)), (74, (11, 13, 0, 3090))], [(91, (6, 0, 2, 2009))], [(104, (6, 2, 2, 2013)), (108, (6, 3, 2, 2015))], [(115, (11, 10, 0, 3087)), (125, (6, 1, 2, 2011))], [(132, (6, 4, 2, 2017))]], [], [], [])
def ev_lt11 : List (List (Nat × (Nat × Nat × Nat × Nat × Nat × Nat × Nat))) := [[(3, (6, 0, 0, 3076, 1031, 1032, 0))], [], [(45, (0, 158, 1, 7013, 7014, 7015, 0))], [(54, (0, 160, 3, 7017, 7018, 7019, 0)), (63, (0, 161, 2, 7037, 7038, 7039, 0))], [(77, (2, 363, 2, 7021, 4099, 0, 0))], [(83, (0, 162, 3, 7022, 7024, 89, 0)), (87, (0, 70, 1, 7030, 5231, 5232, 0)), (94, (7, 0, 5, 7036, 5099, 5098, 1021))], [(100, (0, 151, 1, 7041, 4158, 4159, 0)), (111, (5, 214, 3, 31, 5163, 0, 0))], [(118, (0, 164, 2, 7026, 7028, 90, 0)), (122, (0, 163, 3, 7031, 7033, 91, 0))], [(128, (0, 155, 2, 7035, 6162, 6163, 0))]]
def ev_pt12 : ev_PT := ([[(12, (12, 0, 1, 3154))], [(19, (12, 1, 1, 3155)), (26, (12, 2, 1, 3156))], [(33, (12, 3, 1, 3157)), (37, (12, 4, 1, 3158)), (41, (12, 6, 1, 3160))], [(48, (12, 8, 1, 3162)), (55, (12, 9, 1, 3163)), (62, (12, 10, 1, 3164))], [(71, (12, 11, 1, 3165)), (75, (12, 12, 1, 3166))], [(80, (12, 13, 1, 3167)), (83, (12, 14, 1, 3168)), (89, (12, 17, 1, 3171))], [(105, (10, 1, 0, 1044))], [], [(131, (7, 14, 0, 1165)), (134, (12, 5, 0, 3159)), (143, (12, 7, 0, 3161))], [], [(165, (5, 12, 0, 2085)), (168, (5, 14, 0, 2091)), (172, (5, 15, 0, 2093)), (175, (5, 16, 0, 2095))], [(183, (5, 17, 0, 2097)), (187, (5, 18, 0, 2099))], [(196, (5, 20, 2, 2103)), (202, (5, 19, 0, 2101))], [], [(231, (8, 14, 0, 3039))], [(251, (10, 0, 2, 1041))], [(270, (12, 16, 0, 3170))], [(273, (12, 15, 0, 3169))], [(303, (0, 4, 0, 2167))], [(308, (0, 3, 2, 2165)), (311, (0, 14, 0, 2180)), (316, (0, 12, 0, 2176))], [(326, (0, 13, 0, 2178))], [(338, (12, 18, 0, 3172)), (343, (5, 13, 2, 2089))], [(357, (9, 3, 0, 3144)), (360, (9, 0, 2, 3140))]], [[(9, (10, 1033, 1034, 1002))], [(16, (7, 1056, 1057, 1003)), (23, (2, 1197, 1198, 1006)), (30, (5, 1236, 1237, 1007))], [(45, (0, 2149, 2150, 1009))], [(52, (3, 2212, 2213, 1010)), (59, (8, 3017, 3018, 1011))], [(66, (11, 3071, 3072, 1012))], [(87, (9, 3128, 3130, 1013))]], [[(9, (.object "MendBench$Text", 1033))], [(30, (.object "MendBench$Pattern", 1236))], [], [], [(78, (.array (.array .int), 3127001055))], [(87, (.object "MendBench$Stream", 3128))]], [[], [], [], [], [], [], [], [], [], [], [], [], [], [], [], [], [], [], [], [], [], [], [], [(381, (.long (134217726), 5063)), (383, (.long (576460743713488896), 5064))], [(385, (.long (287948901175001088), 5038)), (387, (.long (4294968320), 5039)), (389, (.long (-287948905469967360), 5040)), (391, (.long (-8589934592), 5041)), (393, (.long (576460745995190270), 5045)), (395, (.long (8646911290859585537), 5046)), (397, (.long (9223372036854775807), 5047))]])
def ev_lt12 : List (List (Nat × (Nat × Nat × Nat × Nat × Nat × Nat × Nat))) := [[(3, (6, 0, 0, 1030, 1031, 1032, 0)), (11, (4, 150, 0, 32, 1036, 0, 0))], [(18, (1, 81, 0, 1058, 1059, 0, 0)), (25, (4, 28, 0, 33, 1200, 0, 0))], [(32, (4, 56, 0, 34, 1239, 0, 0)), (47, (1, 0, 0, 2151, 2152, 0, 0))], [(54, (4, 42, 0, 35, 2215, 0, 0)), (61, (4, 114, 0, 36, 3020, 0, 0))], [(68, (1, 156, 1, 3073, 3074, 0, 0))], [(93, (4, 146, 0, 37, 3132, 0, 0)), (94, (2, 199, 1, 3225, 3226, 0, 0))], [], [(114, (0, 152, 1, 4075, 4076, 4077, 0)), (117, (2, 209, 1, 4086, 4087, 0, 0)), (123, (0, 83, 3, 4090, 4091, 4092, 0)), (127, (0, 82, 2, 5089, 5090, 5091, 0))], [(139, (0, 29, 1, 5108, 5109, 5110, 0))], [(148, (2, 48, 1, 6014, 6015, 0, 0)), (152, (0, 153, 1, 6024, 5094, 5095, 0)), (156, (0, 200, 1, 6033, 6035, 60, 0))], [], [(178, (2, 207, 1, 3228, 3229, 0, 0)), (190, (2, 214, 3, 6068, 5163, 0, 0))], [(199, (0, 151, 1, 6077, 4158, 4159, 0)), (205, (0, 203, 4, 6092, 6094, 61, 0))], [(211, (0, 204, 4, 6101, 6103, 62, 0)), (217, (0, 205, 5, 7005, 7007, 88, 0)), (221, (0, 1, 1, 6096, 6097, 6098, 0))], [(227, (0, 115, 3, 6105, 6106, 6107, 0)), (234, (0, 116, 3, 7062, 7063, 7064, 0)), (239, (0, 117, 0, 7074, 7075, 7076, 0))], [(254, (0, 4, 6, 7096, 7097, 7098, 0))], [(258, (0, 3, 0, 7145, 7146, 7147, 0)), (263, (0, 201, 1, 7171, 7173, 101, 0))], [(278, (0, 43, 1, 7178, 7179, 7180, 0)), (281, (0, 44, 4, 7183, 7184, 7185, 0)), (287, (0, 47, 2, 7238, 7239, 8000, 0))], [(291, (0, 206, 3, 8004, 8006, 109, 0)), (297, (0, 2, 3, 8016, 8017, 8018, 0))], [], [(323, (0, 5, 0, 8053, 8054, 8055, 0)), (329, (0, 6, 0, 8068, 8069, 8070, 0))], [(347, (0, 147, 2, 8097, 8098, 8099, 0)), (351, (0, 202, 1, 8110, 8112, 111, 0))], [(365, (0, 148, 1, 8116, 8117, 8118, 0))], [(368, (0, 149, 0, 8123, 8124, 8125, 0)), (373, (0, 118, 1, 6226, 6227, 6228, 0)), (376, (0, 157, 3, 7009, 7010, 7011, 0)), (380, (0, 159, 1, 7043, 7044, 7045, 0))]]
def ev_pt13 : ev_PT := ([[(7, (13, 2, 1, 8156)), (13, (13, 3, 1, 8157))], [(16, (13, 4, 1, 8158)), (19, (13, 6, 1, 8160)), (22, (13, 7, 1, 8161)), (25, (13, 8, 1, 8162)), (28, (13, 9, 1, 8163)), (31, (13, 10, 1, 8164))], [(34, (13, 11, 1, 8165)), (37, (13, 12, 1, 8166)), (40, (13, 13, 1, 8167)), (43, (13, 14, 1, 8168)), (47, (13, 15, 1, 8169))], [(50, (13, 16, 1, 8170)), (53, (13, 17, 1, 8171)), (56, (13, 18, 1, 8172)), (59, (13, 19, 1, 8173)), (62, (13, 20, 1, 8174))], [(65, (13, 21, 1, 8175)), (68, (13, 22, 1, 8176)), (71, (13, 23, 1, 8177)), (74, (13, 24, 1, 8178)), (77, (13, 29, 1, 8183))], [(80, (13, 30, 1, 8184)), (83, (13, 32, 1, 8186)), (86, (13, 33, 1, 8187)), (89, (13, 34, 1, 8188)), (92, (13, 35, 1, 8189)), (95, (13, 36, 1, 8190))], [(99, (13, 43, 1, 8197)), (102, (13, 44, 1, 8198)), (105, (13, 45, 1, 8199)), (108, (13, 46, 1, 8200)), (111, (13, 47, 1, 8201))], [(114, (13, 48, 1, 8202)), (117, (13, 49, 1, 8203)), (120, (13, 50, 1, 8204)), (123, (13, 51, 1, 8205)), (126, (13, 52, 1, 8206))], [(129, (13, 53, 1, 8207)), (132, (13, 55, 1, 8209)), (135, (13, 56, 1, 8210)), (138, (13, 57, 1, 8211)), (141, (13, 58, 1, 8212))], [(144, (13, 60, 1, 8214)), (147, (13, 61, 1, 8215)), (150, (13, 62, 1, 8216)), (153, (13, 63, 1, 8217)), (157, (13, 64, 1, 8218))], [(160, (13, 65, 1, 8219)), (163, (13, 66, 1, 8220)), (166, (13, 67, 1, 8221)), (169, (13, 69, 1, 8223)), (172, (13, 70, 1, 8224)), (175, (13, 71, 1, 8225))], [(178, (13, 72, 1, 8226)), (181, (13, 74, 1, 8228)), (184, (13, 86, 1, 9000)), (187, (13, 87, 1, 9001)), (191, (13, 89, 1, 9003))], [(194, (13, 90, 1, 9004)), (197, (13, 91, 1, 9005)), (200, (13, 92, 1, 9006)), (203, (13, 93, 1, 9007)), (206, (13, 94, 1, 9008))], [(210, (13, 96, 1, 9010)), (213, (13, 97, 1, 9011)), (216, (13, 98, 1, 9012)), (219, (13, 99, 1, 9013)), (222, (13, 100, 1, 9014))], [(225, (13, 101, 1, 9015)), (228, (13, 102, 1, 9016)), (231, (13, 103, 1, 9017)), (234, (13, 104, 1, 9018)), (237, (13, 106, 1, 9020))], [(240, (13, 107, 1, 9021)), (243, (13, 108, 1, 9022)), (246, (13, 109, 1, 9023)), (249, (13, 111, 1, 9025)), (252, (13, 112, 1, 9026)), (255, (13, 114, 1, 9028))], [(258, (13, 115, 1, 9029)), (261, (13, 116, 1, 9030)), (264, (13, 117, 1, 9031)), (267, (13, 118, 1, 9032)), (270, (13, 119, 1, 9033))], [(273, (13, 120, 1, 9034)), (276, (13, 122, 1, 9036)), (279, (13, 123, 1, 9037)), (282, (13, 124, 1, 9038)), (286, (13, 127, 1, 9041))], [(290, (13, 129, 1, 9043)), (294, (13, 133, 1, 9047)), (297, (13, 134, 1, 9048)), (300, (13, 137, 1, 9051)), (303, (13, 138, 1, 9052))], [(306, (13, 140, 1, 9054)), (309, (13, 141, 1, 9055)), (312, (13, 142, 1, 9056)), (315, (13, 143, 1, 9057)), (318, (13, 144, 1, 9058))], [(321, (13, 0, 0, 8154))], [(346, (13, 1, 0, 8155)), (349, (13, 28, 0, 8182))], [(352, (13, 25, 0, 8179)), (360, (13, 27, 0, 8181))], [(369, (13, 38, 0, 8192)), (372, (13, 37, 0, 8191)), (375, (13, 39, 0, 8193)), (381, (13, 31, 0, 8185))], [(384, (13, 40, 0, 8194)), (394, (13, 41, 0, 8195)), (398, (13, 42, 0, 8196))], [], [], [], [(460, (13, 26, 0, 8180))], [], [], [], [(525, (13, 5, 0, 8159))], [], [], [(567, (13, 73, 0, 8227)), (570, (13, 75, 0, 8229)), (573, (13, 76, 0, 8230))], [(576, (13, 88, 0, 9002)), (579, (13, 95, 0, 9009)), (582, (13, 81, 0, 8235)), (585, (13, 82, 0, 8236)), (588, (13, 83, 0, 8237)), (591, (13, 84, 0, 8238))], [(594, (13, 105, 0, 9019)), (597, (13, 80, 0, 8234))], [(617, (13, 78, 0, 8232))], [(633, (13, 79, 0, 8233)), (636, (13, 85, 0, 8239))], [(642, (13, 77, 0, 8231))], [], [(673, (13, 54, 0, 8208)), (676, (13, 59, 0, 8213))], [(695, (13, 68, 0, 8222))], [(707, (13, 139, 0, 9053))], [], [(741, (13, 110, 0, 9024)), (748, (13, 113, 0, 9027))], [(757, (13, 121, 0, 9035)), (760, (13, 128, 0, 9042)), (763, (13, 131, 0, 9045)), (766, (13, 130, 0, 9044))], [(769, (13, 125, 0, 9039)), (773, (13, 126, 0, 9040)), (783, (13, 132, 0, 9046))], [(799, (13, 136, 0, 9050))], [(802, (13, 135, 0, 9049))]], [], [], [[], [], [], [], [], [], [], [], [], [(156, (.int (40000), 8149))], [], [(190, (.int (150000), 8150))], [], [(209, (.int (100000), 8151))], [], [], [], [(285, (.int (420000), 8152))], [(289, (.int (840000), 8153))], [], [], [], [], [], [], [(407, (.long (-1), 10232))], [(428, (.long (4294967295), 10233))], [], [], [], [(493, (.long (-2), 11041))], [(501, (.long (1000000), 11064)), (503, (.int (1000000), 11065)), (511, (.long (2), 11066))], [], [], [], [], [], [], [], [], [], [], [], [], [], [], [], [], [(772, (.int (2097152), 12103))]])
def ev_lt13 : List (List (Nat × (Nat × Nat × Nat × Nat × Nat × Nat × Nat))) := [[(1, (6, 0, 0, 8148, 1031, 1032, 0))], [], [], [], [], [], [], [], [], [], [], [], [], [], [], [], [], [], [], [], [(325, (2, 222, 3, 10121, 10122, 0, 0)), (329, (2, 224, 1, 10136, 10137, 0, 0)), (333, (2, 225, 1, 10189, 10190, 0, 0))], [(336, (2, 226, 1, 10175, 10176, 0, 0)), (339, (2, 223, 1, 10118, 10119, 0, 0)), (342, (0, 221, 1, 10124, 10126, 112, 0))], [(356, (0, 232, 0, 10147, 10149, 115, 0)), (363, (0, 235, 1, 10143, 10145, 114, 0)), (366, (0, 236, 0, 10178, 10180, 122, 0))], [(378, (0, 237, 1, 10209, 10211, 126, 0))], [(387, (2, 242, 1, 10199, 10200, 0, 0)), (391, (2, 243, 1, 10202, 10203, 0, 0))], [(401, (2, 229, 1, 11006, 11007, 0, 0)), (404, (2, 227, 1, 10196, 10197, 0, 0)), (409, (0, 233, 1, 10155, 10157, 117, 0)), (412, (2, 228, 1, 10213, 10214, 0, 0)), (415, (0, 234, 1, 10167, 10169, 120, 0))], [(419, (0, 252, 1, 10220, 10222, 128, 0)), (422, (0, 250, 1, 10224, 10226, 129, 0)), (425, (0, 248, 1, 10228, 10230, 130, 0)), (430, (0, 249, 1, 10234, 10236, 131, 0))], [(433, (2, 247, 1, 10186, 10187, 0, 0)), (436, (0, 246, 1, 10192, 10194, 124, 0)), (439, (0, 251, 1, 10238, 11000, 132, 0)), (442, (0, 245, 3, 11002, 11004, 133, 0)), (446, (0, 254, 0, 10171, 10173, 121, 0))], [(449, (0, 238, 2, 10205, 10207, 125, 0)), (453, (0, 257, 0, 11025, 11027, 138, 0)), (456, (0, 239, 2, 10151, 10153, 116, 0)), (463, (0, 259, 1, 11013, 11015, 135, 0))], [(466, (0, 260, 1, 11017, 11019, 136, 0)), (469, (0, 258, 0, 11021, 11023, 137, 0)), (472, (0, 255, 0, 10163, 10165, 119, 0)), (475, (0, 256, 0, 10182, 10184, 123, 0)), (478, (0, 253, 0, 10216, 10218, 127, 0))], [(481, (0, 261, 0, 11009, 11011, 134, 0)), (484, (0, 262, 0, 11029, 11031, 139, 0)), (487, (0, 240, 0, 11033, 11035, 140, 0)), (490, (0, 241, 0, 11037, 11039, 141, 0)), (495, (0, 263, 0, 10159, 10161, 118, 0))], [(498, (0, 264, 0, 11042, 11044, 142, 0)), (504, (2, 267, 1, 11058, 11059, 0, 0)), (507, (2, 266, 1, 11061, 11062, 0, 0))], [(513, (0, 268, 1, 11054, 11056, 144, 0)), (516, (0, 269, 1, 11067, 11069, 145, 0)), (519, (0, 313, 1, 11071, 11073, 146, 0)), (522, (0, 265, 1, 10139, 10141, 113, 0))], [(528, (0, 270, 1, 11050, 11052, 143, 0)), (531, (0, 273, 1, 11095, 11097, 151, 0)), (534, (2, 244, 3, 11111, 11112, 0, 0)), (538, (0, 276, 2, 11107, 11109, 152, 0)), (542, (0, 278, 1, 11118, 11120, 153, 0))], [(545, (0, 281, 2, 11134, 11136, 156, 0)), (549, (0, 282, 1, 11142, 11144, 158, 0)), (552, (0, 284, 1, 11146, 11148, 159, 0)), (555, (0, 286, 2, 11150, 11152, 160, 0)), (558, (0, 283, 1, 11126, 11128, 154, 0))], [(561, (0, 280, 2, 11130, 11132, 155, 0)), (564, (0, 285, 2, 11138, 11140, 157, 0))], [], [(600, (0, 289, 1, 12002, 12004, 178, 0)), (603, (0, 294, 1, 12010, 12012, 180, 0)), (606, (0, 292, 3, 11230, 11232, 175, 0))], [(610, (0, 290, 0, 11226, 11228, 174, 0)), (613, (0, 291, 6, 11214, 11216, 171, 0)), (620, (0, 295, 1, 11238, 12000, 177, 0)), (623, (0, 296, 1, 12006, 12008, 179, 0))], [(626, (0, 298, 4, 11222, 11224, 173, 0)), (630, (0, 297, 2, 12014, 12016, 181, 0)), (639, (0, 300, 2, 12034, 12036, 186, 0))], [(645, (0, 293, 1, 12030, 12032, 185, 0)), (648, (0, 302, 2, 12018, 12020, 182, 0)), (651, (0, 303, 1, 11218, 11220, 172, 0)), (654, (0, 299, 1, 11234, 11236, 176, 0))], [(657, (0, 304, 0, 12022, 12024, 183, 0)), (660, (0, 305, 0, 12026, 12028, 184, 0)), (663, (0, 301, 1, 12038, 12040, 187, 0)), (666, (0, 306, 2, 11210, 11212, 170, 0)), (670, (0, 307, 1, 12042, 12044, 188, 0))], [(679, (0, 310, 3, 11075, 11077, 147, 0)), (682, (0, 309, 4, 11079, 11081, 148, 0)), (686, (0, 311, 3, 11083, 11085, 149, 0))], [(689, (0, 312, 3, 11087, 11089, 150, 0)), (692, (0, 314, 2, 12063, 12065, 191, 0)), (698, (0, 317, 3, 11174, 11176, 164, 0)), (701, (0, 318, 1, 11170, 11172, 163, 0))], [(704, (0, 316, 1, 11178, 11180, 165, 0)), (710, (0, 320, 1, 11162, 11164, 161, 0)), (713, (0, 319, 1, 11166, 11168, 162, 0)), (716, (0, 325, 1, 11198, 11200, 167, 0)), (719, (0, 326, 2, 11194, 11196, 166, 0))], [(722, (0, 288, 1, 11202, 11204, 168, 0)), (725, (0, 308, 3, 11206, 11208, 169, 0)), (729, (0, 327, 2, 12046, 12048, 189, 0)), (732, (0, 328, 4, 12054, 11191, 11192, 0)), (735, (0, 315, 2, 12059, 12061, 190, 0))], [(738, (0, 333, 0, 12079, 12081, 192, 0)), (744, (0, 336, 0, 12091, 12093, 193, 0)), (751, (0, 339, 2, 12140, 12142, 201, 0))], [(754, (0, 338, 2, 12144, 12146, 202, 0))], [(776, (0, 342, 1, 12104, 12106, 195, 0)), (779, (0, 341, 5, 12108, 12110, 196, 0))], [(786, (0, 344, 0, 12116, 12118, 198, 0)), (789, (0, 343, 6, 12099, 12101, 194, 0)), (793, (0, 345, 0, 12112, 12114, 197, 0)), (796, (0, 340, 3, 12136, 12138, 200, 0))], [(805, (0, 349, 3, 12132, 12134, 199, 0)), (809, (0, 350, 2, 12148, 12150, 203, 0)), (812, (0, 356, 1, 12172, 12174, 204, 0)), (815, (0, 360, 1, 12188, 12190, 205, 0))]]
def ev_pt14 : ev_PT := ([], [[(8, (12, 1025, 1026, 1001))], [], [], [], [], [], [], [(122, (13, 8143, 8144, 1014))]], [], [])
def ev_lt14 : List (List (Nat × (Nat × Nat × Nat × Nat × Nat × Nat × Nat))) := [[(7, (0, 166, 1, 3221, 3222, 3223, 0))], [(17, (0, 168, 1, 4082, 4083, 4084, 0)), (20, (0, 169, 0, 5103, 5104, 5105, 0)), (24, (0, 170, 0, 6009, 6010, 6011, 0)), (27, (0, 171, 1, 6029, 6030, 6031, 0))], [(32, (0, 172, 1, 6056, 6057, 6058, 0)), (35, (0, 173, 2, 6063, 6064, 6065, 0)), (39, (0, 174, 2, 6072, 6073, 6074, 0)), (43, (0, 175, 1, 6081, 6082, 6083, 0)), (46, (0, 176, 4, 6088, 6089, 6090, 0))], [(50, (0, 177, 4, 6233, 6234, 6235, 0)), (53, (0, 178, 5, 7000, 7001, 7002, 0)), (57, (0, 179, 3, 7050, 7051, 7052, 0)), (61, (0, 180, 3, 7058, 7059, 7060, 0))], [(64, (0, 181, 2, 7069, 7070, 7071, 0)), (67, (0, 182, 3, 7081, 7082, 7083, 0)), (70, (0, 183, 1, 7090, 7091, 7092, 0)), (73, (0, 184, 1, 7152, 7153, 7154, 0)), (76, (0, 185, 2, 7159, 7160, 7161, 0))], [(80, (0, 186, 4, 7167, 7168, 7169, 0)), (83, (0, 187, 3, 8011, 8012, 8013, 0)), (87, (0, 188, 1, 8024, 8025, 8026, 0)), (90, (0, 189, 0, 8032, 8033, 8034, 0)), (93, (0, 190, 0, 8040, 8041, 8042, 0))], [(96, (0, 191, 0, 8048, 8049, 8050, 0)), (99, (0, 192, 0, 8064, 8065, 8066, 0)), (102, (0, 193, 0, 8075, 8076, 8077, 0)), (105, (0, 194, 2, 8083, 8084, 8085, 0)), (108, (0, 195, 2, 8092, 8093, 8094, 0))], [(112, (0, 196, 1, 8106, 8107, 8108, 0)), (115, (0, 197, 1, 8131, 8132, 8133, 0)), (118, (0, 198, 1, 8139, 8140, 8141, 0)), (121, (1, 165, 0, 1027, 1028, 0, 0)), (124, (1, 219, 0, 8145, 8146, 0, 0)), (125, (8, 364, 3, 3216, 3217, 0, 0))], [(130, (0, 230, 1, 10114, 10115, 10116, 0)), (131, (0, 220, 0, 10110, 10111, 10112, 0)), (134, (0, 167, 0, 3212, 3213, 3214, 0)), (137, (0, 231, 0, 10128, 10129, 10130, 0)), (138, (8, 365, 3, 4079, 4080, 0, 0)), (140, (0, 271, 1, 10132, 10133, 10134, 0)), (141, (8, 366, 2, 5100, 5101, 0, 0))], [(144, (0, 272, 0, 11046, 11047, 11048, 0)), (145, (8, 367, 2, 6006, 6007, 0, 0)), (147, (0, 337, 0, 12087, 12088, 12089, 0)), (148, (8, 368, 3, 6025, 6026, 0, 0)), (150, (0, 274, 1, 11091, 11092, 11093, 0)), (151, (8, 369, 3, 6053, 6054, 0, 0)), (153, (0, 275, 1, 11099, 11100, 11101, 0)), (154, (8, 370, 4, 6060, 6061, 0, 0)), (157, (0, 277, 2, 11103, 11104, 11105, 0)), (158, (8, 371, 4, 6069, 6070, 0, 0))], [(160, (0, 279, 2, 11114, 11115, 11116, 0)), (161, (8, 372, 3, 6078, 6079, 0, 0)), (163, (0, 287, 1, 11122, 11123, 11124, 0)), (164, (8, 373, 6, 6085, 6086, 0, 0)), (167, (0, 328, 4, 11190, 11191, 11192, 0)), (168, (8, 374, 6, 6230, 6231, 0, 0)), (170, (0, 329, 4, 12050, 12051, 12052, 0)), (171, (8, 375, 7, 6237, 6238, 0, 0)), (174, (0, 330, 5, 12055, 12056, 12057, 0)), (175, (8, 376, 5, 7047, 7048, 0, 0))], [(178, (0, 331, 3, 12067, 12068, 12069, 0)), (179, (8, 377, 5, 7055, 7056, 0, 0)), (181, (0, 332, 3, 12071, 12072, 12073, 0)), (182, (8, 378, 4, 7066, 7067, 0, 0)), (184, (0, 334, 2, 12075, 12076, 12077, 0)), (185, (8, 379, 5, 7078, 7079, 0, 0)), (187, (0, 335, 3, 12083, 12084, 12085, 0)), (188, (8, 380, 3, 7087, 7088, 0, 0)), (190, (0, 346, 1, 12095, 12096, 12097, 0)), (191, (8, 381, 3, 7149, 7150, 0, 0))], [(193, (0, 347, 1, 12120, 12121, 12122, 0)), (194, (8, 382, 4, 7156, 7157, 0, 0)), (196, (0, 348, 2, 12124, 12125, 12126, 0)), (197, (8, 383, 6, 7164, 7165, 0, 0)), (199, (0, 351, 4, 12128, 12129, 12130, 0)), (200, (8, 384, 5, 8008, 8009, 0, 0)), (203, (0, 352, 3, 12152, 12153, 12154, 0)), (204, (8, 385, 3, 8021, 8022, 0, 0)), (206, (0, 353, 1, 12156, 12157, 12158, 0)), (207, (8, 386, 2, 8029, 8030, 0, 0))], [(209, (0, 354, 0, 12160, 12161, 12162, 0)), (210, (8, 387, 2, 8037, 8038, 0, 0)), (212, (0, 355, 0, 12164, 12165, 12166, 0)), (213, (8, 388, 2, 8045, 8046, 0, 0)), (215, (0, 357, 0, 12168, 12169, 12170, 0)), (216, (8, 389, 2, 8061, 8062, 0, 0)), (218, (0, 358, 0, 12176, 12177, 12178, 0)), (219, (8, 390, 2, 8072, 8073, 0, 0)), (221, (0, 359, 0, 12180, 12181, 12182, 0)), (222, (8, 391, 4, 8080, 8081, 0, 0))], [(224, (0, 361, 2, 12184, 12185, 12186, 0)), (225, (8, 392, 4, 8089, 8090, 0, 0)), (228, (0, 321, 2, 11154, 11155, 11156, 0)), (229, (8, 393, 3, 8103, 8104, 0, 0)), (231, (0, 322, 1, 11158, 11159, 11160, 0)), (232, (8, 394, 3, 8128, 8129, 0, 0)), (234, (0, 323, 1, 11182, 11183, 11184, 0)), (235, (8, 395, 3, 8136, 8137, 0, 0)), (237, (0, 324, 1, 11186, 11187, 11188, 0))]]
def ev_pt15 : ev_PT := ([], [], [], [])
def ev_lt15 : List (List (Nat × (Nat × Nat × Nat × Nat × Nat × Nat × Nat))) := []
def ev_pt16 : ev_PT := ([], [], [], [[], [], [], [], [], [], [], [], [], [], [], [], [], [], [], [], [], [], [], [(314, (.long (6148914691236517205), 5180)), (316, (.long (3689348814741910323), 5181)), (318, (.long (1085102592571150095), 5182))]])
def ev_lt16 : List (List (Nat × (Nat × Nat × Nat × Nat × Nat × Nat × Nat))) := []
def ev_PEt (o : Nat) : ev_PT := match o with
  | 0 => ev_pt0
  | 1 => ev_pt1
  | 2 => ev_pt2
  | 3 => ev_pt3
  | 4 => ev_pt4
  | 5 => ev_pt5
  | 6 => ev_pt6
  | 7 => ev_pt7
  | 8 => ev_pt8
  | 9 => ev_pt9
  | 10 => ev_pt10
  | 11 => ev_pt11
  | 12 => ev_pt12
  | 13 => ev_pt13
  | 14 => ev_pt14
  | 15 => ev_pt15
  | 16 => ev_pt16
  | _ => ([], [], [], [])
def ev_PEs (o : Nat) : ev_T := ev_pool (ev_PEt o)
def ev_LT (o : Nat) : List (List (Nat × (Nat × Nat × Nat × Nat × Nat × Nat × Nat))) := match o with
  | 0 => ev_lt0
  | 1 => ev_lt1
  | 2 => ev_lt2
  | 3 => ev_lt3
  | 4 => ev_lt4
  | 5 => ev_lt5
  | 6 => ev_lt6
  | 7 => ev_lt7
  | 8 => ev_lt8
  | 9 => ev_lt9
  | 10 => ev_lt10
  | 11 => ev_lt11
  | 12 => ev_lt12
  | 13 => ev_lt13
  | 14 => ev_lt14
  | 15 => ev_lt15
  | 16 => ev_lt16
  | _ => []
def ev_Lk (o x : Nat) : Option ev_L := match ev_bk (ev_LT o) x with
  | some a => some (a.1, a.2.1, a.2.2.1)
  | none => none
def ev_tx : List (List (Nat × (Nat × String × Nat × String × Nat × Nat))) := [[], [], [], [], [], [], [(100, (98, "java/lang/IllegalArgumentException", 102, "no character, or one that texts do not have", 3231, 1018)), (111, (109, "java/lang/IllegalStateException", 113, "the draft has no room for that", 4059, 1019))], [(121, (98, "java/lang/IllegalArgumentException", 102, "a part has a lower letter as its name", 3231, 1018))], [(137, (109, "java/lang/IllegalStateException", 113, "there are 12 patterns", 4059, 1019))], [(146, (109, "java/lang/IllegalStateException", 113, "there are 8 templates", 4059, 1019))], [(162, (160, "java/lang/IndexOutOfBoundsException", 164, "no such pattern", 6037, 1024))], [(181, (98, "java/lang/IllegalArgumentException", 102, "no character of texts", 3231, 1018))], [(194, (98, "java/lang/IllegalArgumentException", 102, "an index below 0", 3231, 1018))], [(209, (160, "java/lang/IndexOutOfBoundsException", 164, "no such pattern, buffer, place or group", 6037, 1024)), (215, (98, "java/lang/IllegalArgumentException", 102, "no such engine", 3231, 1018))], [(225, (160, "java/lang/IndexOutOfBoundsException", 164, "no such pattern, buffer or place", 6037, 1024)), (237, (160, "java/lang/IndexOutOfBoundsException", 164, "no such pattern or buffer", 6037, 1024))], [(243, (160, "java/lang/IndexOutOfBoundsException", 164, "no such pattern, buffer or match", 6037, 1024)), (245, (160, "java/lang/IndexOutOfBoundsException", 164, "not so many matches", 6037, 1024)), (247, (160, "java/lang/IndexOutOfBoundsException", 164, "no such buffer", 6037, 1024)), (249, (109, "java/lang/IllegalStateException", 113, "the draft has more than 80 characters", 4059, 1019))], [(261, (160, "java/lang/IndexOutOfBoundsException", 164, "no such buffer, or no character there", 6037, 1024)), (266, (160, "java/lang/IndexOutOfBoundsException", 164, "no such pattern, template or buffer", 6037, 1024)), (268, (98, "java/lang/IllegalArgumentException", 102, "1 to 100 matches", 3231, 1018))], [(276, (109, "java/lang/IllegalStateException", 113, "the macro has 10 replacements", 4059, 1019)), (285, (109, "java/lang/IllegalStateException", 113, "a search is too far, or the buffer has no room", 4059, 1019))], [(295, (160, "java/lang/IndexOutOfBoundsException", 164, "no such buffer or place", 6037, 1024)), (301, (109, "java/lang/IllegalStateException", 113, "there are 12 marks", 4059, 1019))], [(306, (160, "java/lang/IndexOutOfBoundsException", 164, "no such mark", 6037, 1024)), (314, (109, "java/lang/IllegalStateException", 113, "a group is open", 4059, 1019)), (319, (109, "java/lang/IllegalStateException", 113, "no group is open", 4059, 1019))], [(321, (109, "java/lang/IllegalStateException", 113, "a group is open, or there is none", 4059, 1019)), (332, (109, "java/lang/IllegalStateException", 113, "there are 6 macros", 4059, 1019)), (334, (160, "java/lang/IndexOutOfBoundsException", 164, "no such macro or buffer", 6037, 1024))], [(336, (109, "java/lang/IllegalStateException", 113, "one of the replacements is not possible", 4059, 1019)), (341, (109, "java/lang/IllegalStateException", 113, "the engine 2 does not take it, or there are 4 streams", 4059, 1019))], [(355, (160, "java/lang/IndexOutOfBoundsException", 164, "no such stream", 6037, 1024)), (363, (109, "java/lang/IllegalStateException", 113, "it is finished, or its text has no room", 4059, 1019))], [(371, (109, "java/lang/IllegalStateException", 113, "it is finished", 4059, 1019))]]
def ev_TXs (o x is : Nat) : Option (String × Nat × String) := match Nat.beq o 12 with
  | true => (match ev_bk ev_tx is with
    | some a => (match Nat.beq a.1 x with
      | true => some (a.2.1, a.2.2.1, a.2.2.2.1)
      | false => none)
    | none => none)
  | false => none
def ev_hx : List (Nat × Nat) := [(13, 3219), (15, 3220), (30, 6028)]
