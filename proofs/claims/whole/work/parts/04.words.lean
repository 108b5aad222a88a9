set_option maxRecDepth 100000 in
theorem tb_0 : (Cond.selects "NameSeeker" (⟨"NameSeeker", "layText", "()V"⟩ : MethodName) (⟨"NameSeeker", "layText", "()V"⟩ : MethodName)) ∈ TB := tbI 0 rfl rfl
set_option maxRecDepth 100000 in
theorem tb_1 : (Cond.selects "NameSeeker" (⟨"NameSeeker", "readItem", "(I)V"⟩ : MethodName) (⟨"NameSeeker", "readItem", "(I)V"⟩ : MethodName)) ∈ TB := tbI 1 rfl rfl
set_option maxRecDepth 100000 in
theorem tb_2 : (Cond.selects "NameSeeker$Name" (⟨"NameSeeker$Name", "wouldBegin", "(C)Z"⟩ : MethodName) (⟨"NameSeeker$Name", "wouldBegin", "(C)Z"⟩ : MethodName)) ∈ TB := tbI 2 rfl rfl
set_option maxRecDepth 100000 in
theorem tb_3 : (Cond.selects "NameSeeker$Text" (⟨"NameSeeker$Text", "behindName", "(I)I"⟩ : MethodName) (⟨"NameSeeker$Text", "behindName", "(I)I"⟩ : MethodName)) ∈ TB := tbI 3 rfl rfl
set_option maxRecDepth 100000 in
theorem tb_4 : (Cond.selects "NameSeeker$Text" (⟨"NameSeeker$Text", "isFigure", "(II)Z"⟩ : MethodName) (⟨"NameSeeker$Text", "isFigure", "(II)Z"⟩ : MethodName)) ∈ TB := tbI 4 rfl rfl
set_option maxRecDepth 100000 in
theorem tb_5 : (Cond.selects "NameSeeker$Text" (⟨"NameSeeker$Text", "behindWorths", "(I)I"⟩ : MethodName) (⟨"NameSeeker$Text", "behindWorths", "(I)I"⟩ : MethodName)) ∈ TB := tbI 5 rfl rfl
set_option maxRecDepth 100000 in
theorem tb_6 : (Cond.selects "NameSeeker" (⟨"NameSeeker", "seekScore", "(LNameSeeker$Name;)I"⟩ : MethodName) (⟨"NameSeeker", "seekScore", "(LNameSeeker$Name;)I"⟩ : MethodName)) ∈ TB := tbI 6 rfl rfl
set_option maxRecDepth 100000 in
theorem tb_7 : (Cond.selects "NameSeeker$Laying" (⟨"NameSeeker$Laying", "workOutLetter", "(LNameSeeker$Name;LNameSeeker$Word;ILNameSeeker$Scales;)V"⟩ : MethodName) (⟨"NameSeeker$Laying", "workOutLetter", "(LNameSeeker$Name;LNameSeeker$Word;ILNameSeeker$Scales;)V"⟩ : MethodName)) ∈ TB := tbI 7 rfl rfl
set_option maxRecDepth 100000 in
theorem tb_8 : (Cond.selects "NameSeeker$Laying" (⟨"NameSeeker$Laying", "workOutNext", "(LNameSeeker$Name;IILNameSeeker$Scales;)V"⟩ : MethodName) (⟨"NameSeeker$Laying", "workOutNext", "(LNameSeeker$Name;IILNameSeeker$Scales;)V"⟩ : MethodName)) ∈ TB := tbI 8 rfl rfl
set_option maxRecDepth 100000 in
theorem tb_9 : (Cond.selects "NameSeeker" (⟨"NameSeeker", "seekScores", "()V"⟩ : MethodName) (⟨"NameSeeker", "seekScores", "()V"⟩ : MethodName)) ∈ TB := tbI 9 rfl rfl
set_option maxRecDepth 100000 in
theorem tb_10 : (Cond.selects "NameSeeker$Ranking" (⟨"NameSeeker$Ranking", "insert", "(LNameSeeker$Lot;I)V"⟩ : MethodName) (⟨"NameSeeker$Ranking", "insert", "(LNameSeeker$Lot;I)V"⟩ : MethodName)) ∈ TB := tbI 10 rfl rfl
set_option maxRecDepth 100000 in
theorem tb_11 : (Cond.selects "NameSeeker$Ranking" (⟨"NameSeeker$Ranking", "isAhead", "(LNameSeeker$Lot;II)Z"⟩ : MethodName) (⟨"NameSeeker$Ranking", "isAhead", "(LNameSeeker$Lot;II)Z"⟩ : MethodName)) ∈ TB := tbI 11 rfl rfl
set_option maxRecDepth 100000 in
theorem tb_12 : (Cond.selects "NameSeeker" (⟨"NameSeeker", "isFirstBy", "(III)Z"⟩ : MethodName) (⟨"NameSeeker", "isFirstBy", "(III)Z"⟩ : MethodName)) ∈ TB := tbI 12 rfl rfl
set_option maxRecDepth 100000 in
theorem tb_13 : (Cond.selects "NameSeekerModel" (⟨"NameSeekerModel", "reads", "()I"⟩ : MethodName) (⟨"NameSeekerModel", "reads", "()I"⟩ : MethodName)) ∈ TB := tbI 13 rfl rfl
set_option maxRecDepth 100000 in
theorem tb_14 : (Cond.selects "NameSeekerModel" (⟨"NameSeekerModel", "readsName", "(I)I"⟩ : MethodName) (⟨"NameSeekerModel", "readsName", "(I)I"⟩ : MethodName)) ∈ TB := tbI 14 rfl rfl
set_option maxRecDepth 100000 in
theorem tb_15 : (Cond.selects "NameSeekerModel" (⟨"NameSeekerModel", "isFigure", "(II)Z"⟩ : MethodName) (⟨"NameSeekerModel", "isFigure", "(II)Z"⟩ : MethodName)) ∈ TB := tbI 15 rfl rfl
set_option maxRecDepth 100000 in
theorem tb_16 : (Cond.selects "NameSeekerModel" (⟨"NameSeekerModel", "letterAt", "(I)I"⟩ : MethodName) (⟨"NameSeekerModel", "letterAt", "(I)I"⟩ : MethodName)) ∈ TB := tbI 16 rfl rfl
set_option maxRecDepth 100000 in
theorem tb_17 : (Cond.selects "NameSeekerModel" (⟨"NameSeekerModel", "readsWorths", "(I)I"⟩ : MethodName) (⟨"NameSeekerModel", "readsWorths", "(I)I"⟩ : MethodName)) ∈ TB := tbI 17 rfl rfl
set_option maxRecDepth 100000 in
theorem tb_18 : (Cond.selects "NameSeekerModel" (⟨"NameSeekerModel", "isName", "(I)Z"⟩ : MethodName) (⟨"NameSeekerModel", "isName", "(I)Z"⟩ : MethodName)) ∈ TB := tbI 18 rfl rfl
set_option maxRecDepth 100000 in
theorem tb_19 : (Cond.selects "NameSeekerModel" (⟨"NameSeekerModel", "isBeginning", "(II)Z"⟩ : MethodName) (⟨"NameSeekerModel", "isBeginning", "(II)Z"⟩ : MethodName)) ∈ TB := tbI 19 rfl rfl
set_option maxRecDepth 100000 in
theorem tb_20 : (Cond.selects "NameSeekerModel" (⟨"NameSeekerModel", "sought", "(I)I"⟩ : MethodName) (⟨"NameSeekerModel", "sought", "(I)I"⟩ : MethodName)) ∈ TB := tbI 20 rfl rfl
set_option maxRecDepth 100000 in
theorem tb_21 : (Cond.selects "NameSeekerModel" (⟨"NameSeekerModel", "code", "()J"⟩ : MethodName) (⟨"NameSeekerModel", "code", "()J"⟩ : MethodName)) ∈ TB := tbI 21 rfl rfl
set_option maxRecDepth 100000 in
theorem tb_22 : (Cond.selects "NameSeekerModel" (⟨"NameSeekerModel", "triesWord", "()V"⟩ : MethodName) (⟨"NameSeekerModel", "triesWord", "()V"⟩ : MethodName)) ∈ TB := tbI 22 rfl rfl
set_option maxRecDepth 100000 in
theorem tb_23 : (Cond.selects "NameSeekerModel" (⟨"NameSeekerModel", "waysOf", "(I)I"⟩ : MethodName) (⟨"NameSeekerModel", "waysOf", "(I)I"⟩ : MethodName)) ∈ TB := tbI 23 rfl rfl
set_option maxRecDepth 100000 in
theorem tb_24 : (Cond.selects "NameSeekerModel" (⟨"NameSeekerModel", "isWay", "(I)Z"⟩ : MethodName) (⟨"NameSeekerModel", "isWay", "(I)Z"⟩ : MethodName)) ∈ TB := tbI 24 rfl rfl
set_option maxRecDepth 100000 in
theorem tb_25 : (Cond.selects "NameSeekerModel" (⟨"NameSeekerModel", "isAlike", "(III)Z"⟩ : MethodName) (⟨"NameSeekerModel", "isAlike", "(III)Z"⟩ : MethodName)) ∈ TB := tbI 25 rfl rfl
set_option maxRecDepth 100000 in
theorem tb_26 : (Cond.selects "NameSeekerModel" (⟨"NameSeekerModel", "worthOfWay", "(I)I"⟩ : MethodName) (⟨"NameSeekerModel", "worthOfWay", "(I)I"⟩ : MethodName)) ∈ TB := tbI 26 rfl rfl
set_option maxRecDepth 100000 in
theorem tb_27 : (Cond.selects "NameSeekerModel" (⟨"NameSeekerModel", "goesOn", "(I)Z"⟩ : MethodName) (⟨"NameSeekerModel", "goesOn", "(I)Z"⟩ : MethodName)) ∈ TB := tbI 27 rfl rfl
set_option maxRecDepth 100000 in
theorem tb_28 : (Cond.selects "NameSeekerModel" (⟨"NameSeekerModel", "passing", "(I)Z"⟩ : MethodName) (⟨"NameSeekerModel", "passing", "(I)Z"⟩ : MethodName)) ∈ TB := tbI 28 rfl rfl
set_option maxRecDepth 100000 in
theorem tb_29 : (Cond.selects "NameSeekerModel" (⟨"NameSeekerModel", "has", "(II)Z"⟩ : MethodName) (⟨"NameSeekerModel", "has", "(II)Z"⟩ : MethodName)) ∈ TB := tbI 29 rfl rfl
set_option maxRecDepth 100000 in
theorem tb_30 : (Cond.selects "NameSeekerModel" (⟨"NameSeekerModel", "aheadOf", "(I)I"⟩ : MethodName) (⟨"NameSeekerModel", "aheadOf", "(I)I"⟩ : MethodName)) ∈ TB := tbI 30 rfl rfl
set_option maxRecDepth 100000 in
theorem tb_31 : (Cond.selects "NameSeekerModel" (⟨"NameSeekerModel", "isAhead", "(II)Z"⟩ : MethodName) (⟨"NameSeekerModel", "isAhead", "(II)Z"⟩ : MethodName)) ∈ TB := tbI 31 rfl rfl
set_option maxRecDepth 100000 in
theorem tb_32 : (Cond.selects "NameSeekerModel" (⟨"NameSeekerModel", "isFirst", "(I)Z"⟩ : MethodName) (⟨"NameSeekerModel", "isFirst", "(I)Z"⟩ : MethodName)) ∈ TB := tbI 32 rfl rfl
set_option maxRecDepth 100000 in
theorem tb_33 : (Jvm.Cond.initialized "NameSeekerLaw") ∈ TB := tbI 33 rfl rfl
set_option maxRecDepth 100000 in
theorem tb_34 : (Jvm.Cond.initialized "NameSeeker") ∈ TB := tbI 34 rfl rfl
set_option maxRecDepth 100000 in
theorem tb_35 : (Jvm.Cond.initialized "NameSeeker$Text") ∈ TB := tbI 35 rfl rfl
set_option maxRecDepth 100000 in
theorem tb_36 : (Jvm.Cond.initialized "NameSeeker$Lot") ∈ TB := tbI 36 rfl rfl
set_option maxRecDepth 100000 in
theorem tb_37 : (Jvm.Cond.initialized "NameSeeker$Name") ∈ TB := tbI 37 rfl rfl
set_option maxRecDepth 100000 in
theorem tb_38 : (Jvm.Cond.initialized "NameSeeker$Scales") ∈ TB := tbI 38 rfl rfl
set_option maxRecDepth 100000 in
theorem tb_39 : (Jvm.Cond.initialized "NameSeeker$Word") ∈ TB := tbI 39 rfl rfl
set_option maxRecDepth 100000 in
theorem tb_40 : (Jvm.Cond.initialized "NameSeeker$Laying") ∈ TB := tbI 40 rfl rfl
set_option maxRecDepth 100000 in
theorem tb_41 : (Jvm.Cond.initialized "NameSeeker$Known") ∈ TB := tbI 41 rfl rfl
set_option maxRecDepth 100000 in
theorem tb_42 : (Jvm.Cond.initialized "NameSeeker$Asked") ∈ TB := tbI 42 rfl rfl
set_option maxRecDepth 100000 in
theorem tb_43 : (Jvm.Cond.initialized "NameSeeker$Ranking") ∈ TB := tbI 43 rfl rfl
set_option maxRecDepth 100000 in
theorem tb_48 : (Jvm.Cond.initialized "NameSeekerModel") ∈ TB := tbI 48 rfl rfl
set_option maxRecDepth 100000 in
theorem tb_51 : (Jvm.Cond.classLink "NameSeekerLaw" (7 : Nat) "NameSeeker") ∈ TB := tbI 51 rfl rfl
set_option maxRecDepth 100000 in
theorem tb_52 : (Jvm.Cond.instantiable "NameSeeker" (14 : Nat)) ∈ TB := tbI 52 rfl rfl
set_option maxRecDepth 100000 in
theorem tb_53 : (Jvm.Cond.methodLink "NameSeekerLaw" (9 : Nat) ({ cls := "NameSeeker", name := "<init>", desc := "()V" } : Jvm.MethodName)) ∈ TB := tbI 53 rfl rfl
set_option maxRecDepth 100000 in
theorem tb_54 : (Jvm.Cond.instanceMethod ({ cls := "NameSeeker", name := "<init>", desc := "()V" } : Jvm.MethodName)) ∈ TB := tbI 54 rfl rfl
set_option maxRecDepth 100000 in
theorem tb_55 : (Jvm.Cond.code ({ cls := "NameSeeker", name := "<init>", desc := "()V" } : Jvm.MethodName) prog_1_method_1_code (2 : Nat) (Option.none : Option Jvm.ClassFile.FieldType)) ∈ TB := tbI 55 rfl rfl
set_option maxRecDepth 100000 in
theorem tb_59 : (Jvm.Cond.classLink "NameSeeker" (7 : Nat) "NameSeeker$Text") ∈ TB := tbI 59 rfl rfl
set_option maxRecDepth 100000 in
theorem tb_60 : (Jvm.Cond.instantiable "NameSeeker$Text" (2 : Nat)) ∈ TB := tbI 60 rfl rfl
set_option maxRecDepth 100000 in
theorem tb_62 : (Jvm.Cond.instanceMethod ({ cls := "NameSeeker$Text", name := "<init>", desc := "()V" } : Jvm.MethodName)) ∈ TB := tbI 62 rfl rfl
set_option maxRecDepth 100000 in
theorem tb_63 : (Jvm.Cond.code ({ cls := "NameSeeker$Text", name := "<init>", desc := "()V" } : Jvm.MethodName) prog_9_method_1_code (1 : Nat) (Option.none : Option Jvm.ClassFile.FieldType)) ∈ TB := tbI 63 rfl rfl
set_option maxRecDepth 100000 in
theorem tb_65 : (Jvm.Cond.fieldLink "NameSeeker$Text" (9 : Nat) "NameSeeker$Text" "letters" "[C") ∈ TB := tbI 65 rfl rfl
set_option maxRecDepth 100000 in
theorem tb_66 : (Jvm.Cond.fieldLink "NameSeeker$Text" (15 : Nat) "NameSeeker$Text" "size" "I") ∈ TB := tbI 66 rfl rfl
set_option maxRecDepth 100000 in
theorem tb_67 : (Jvm.Cond.fieldLink "NameSeeker" (107 : Nat) "NameSeeker$Text" "size" "I") ∈ TB := tbI 67 rfl rfl
set_option maxRecDepth 100000 in
theorem tb_73 : (Jvm.Cond.arrayClass Jvm.ClassFile.FieldType.char) ∈ TB := tbI 73 rfl rfl
set_option maxRecDepth 100000 in
theorem tb_74 : (Jvm.Cond.classLink "NameSeeker" (16 : Nat) "NameSeeker$Lot") ∈ TB := tbI 74 rfl rfl
set_option maxRecDepth 100000 in
theorem tb_75 : (Jvm.Cond.instantiable "NameSeeker$Lot" (3 : Nat)) ∈ TB := tbI 75 rfl rfl
set_option maxRecDepth 100000 in
theorem tb_76 : (Jvm.Cond.methodLink "NameSeeker" (18 : Nat) ({ cls := "NameSeeker$Lot", name := "<init>", desc := "()V" } : Jvm.MethodName)) ∈ TB := tbI 76 rfl rfl
set_option maxRecDepth 100000 in
theorem tb_77 : (Jvm.Cond.instanceMethod ({ cls := "NameSeeker$Lot", name := "<init>", desc := "()V" } : Jvm.MethodName)) ∈ TB := tbI 77 rfl rfl
set_option maxRecDepth 100000 in
theorem tb_78 : (Jvm.Cond.code ({ cls := "NameSeeker$Lot", name := "<init>", desc := "()V" } : Jvm.MethodName) prog_5_method_1_code (2 : Nat) (Option.none : Option Jvm.ClassFile.FieldType)) ∈ TB := tbI 78 rfl rfl
set_option maxRecDepth 100000 in
theorem tb_80 : (Jvm.Cond.classLink "NameSeeker$Lot" (9 : Nat) "NameSeeker$Name") ∈ TB := tbI 80 rfl rfl
set_option maxRecDepth 100000 in
theorem tb_82 : (Jvm.Cond.instantiable "NameSeeker$Name" (7 : Nat)) ∈ TB := tbI 82 rfl rfl
set_option maxRecDepth 100000 in
theorem tb_84 : (Jvm.Cond.instanceMethod ({ cls := "NameSeeker$Name", name := "<init>", desc := "()V" } : Jvm.MethodName)) ∈ TB := tbI 84 rfl rfl
set_option maxRecDepth 100000 in
theorem tb_85 : (Jvm.Cond.code ({ cls := "NameSeeker$Name", name := "<init>", desc := "()V" } : Jvm.MethodName) prog_6_method_1_code (1 : Nat) (Option.none : Option Jvm.ClassFile.FieldType)) ∈ TB := tbI 85 rfl rfl
set_option maxRecDepth 100000 in
theorem tb_87 : (Jvm.Cond.fieldLink "NameSeeker$Name" (9 : Nat) "NameSeeker$Name" "signs" "[C") ∈ TB := tbI 87 rfl rfl
set_option maxRecDepth 100000 in
theorem tb_88 : (Jvm.Cond.fieldLink "NameSeeker" (141 : Nat) "NameSeeker$Name" "signs" "[C") ∈ TB := tbI 88 rfl rfl
set_option maxRecDepth 100000 in
theorem tb_89 : (Jvm.Cond.fieldLink "NameSeeker$Name" (15 : Nat) "NameSeeker$Name" "size" "I") ∈ TB := tbI 89 rfl rfl
set_option maxRecDepth 100000 in
theorem tb_90 : (Jvm.Cond.fieldLink "NameSeeker$Laying" (36 : Nat) "NameSeeker$Name" "size" "I") ∈ TB := tbI 90 rfl rfl
set_option maxRecDepth 100000 in
theorem tb_91 : (Jvm.Cond.fieldLink "NameSeeker$Ranking" (42 : Nat) "NameSeeker$Name" "size" "I") ∈ TB := tbI 91 rfl rfl
set_option maxRecDepth 100000 in
theorem tb_92 : (Jvm.Cond.fieldLink "NameSeeker" (131 : Nat) "NameSeeker$Name" "size" "I") ∈ TB := tbI 92 rfl rfl
set_option maxRecDepth 100000 in
theorem tb_93 : (Jvm.Cond.fieldLink "NameSeeker$Name" (19 : Nat) "NameSeeker$Name" "kind" "I") ∈ TB := tbI 93 rfl rfl
set_option maxRecDepth 100000 in
theorem tb_94 : (Jvm.Cond.fieldLink "NameSeeker$Scales" (30 : Nat) "NameSeeker$Name" "kind" "I") ∈ TB := tbI 94 rfl rfl
set_option maxRecDepth 100000 in
theorem tb_95 : (Jvm.Cond.fieldLink "NameSeeker" (126 : Nat) "NameSeeker$Name" "kind" "I") ∈ TB := tbI 95 rfl rfl
set_option maxRecDepth 100000 in
theorem tb_96 : (Jvm.Cond.fieldLink "NameSeeker$Name" (22 : Nat) "NameSeeker$Name" "id" "I") ∈ TB := tbI 96 rfl rfl
set_option maxRecDepth 100000 in
theorem tb_97 : (Jvm.Cond.fieldLink "NameSeeker" (132 : Nat) "NameSeeker$Name" "id" "I") ∈ TB := tbI 97 rfl rfl
set_option maxRecDepth 100000 in
theorem tb_98 : (Jvm.Cond.fieldLink "NameSeeker$Name" (25 : Nat) "NameSeeker$Name" "picked" "I") ∈ TB := tbI 98 rfl rfl
set_option maxRecDepth 100000 in
theorem tb_99 : (Jvm.Cond.fieldLink "NameSeeker$Ranking" (37 : Nat) "NameSeeker$Name" "picked" "I") ∈ TB := tbI 99 rfl rfl
set_option maxRecDepth 100000 in
theorem tb_100 : (Jvm.Cond.fieldLink "NameSeeker" (135 : Nat) "NameSeeker$Name" "picked" "I") ∈ TB := tbI 100 rfl rfl
set_option maxRecDepth 100000 in
theorem tb_101 : (Jvm.Cond.fieldLink "NameSeeker$Name" (28 : Nat) "NameSeeker$Name" "beginnings" "I") ∈ TB := tbI 101 rfl rfl
set_option maxRecDepth 100000 in
theorem tb_102 : (Jvm.Cond.fieldLink "NameSeeker$Scales" (25 : Nat) "NameSeeker$Name" "beginnings" "I") ∈ TB := tbI 102 rfl rfl
set_option maxRecDepth 100000 in
theorem tb_103 : (Jvm.Cond.fieldLink "NameSeeker" (138 : Nat) "NameSeeker$Name" "beginnings" "I") ∈ TB := tbI 103 rfl rfl
set_option maxRecDepth 100000 in
theorem tb_104 : (Jvm.Cond.fieldLink "NameSeeker$Name" (31 : Nat) "NameSeeker$Name" "letterBits" "I") ∈ TB := tbI 104 rfl rfl
set_option maxRecDepth 100000 in
theorem tb_105 : (Jvm.Cond.fieldLink "NameSeeker" (251 : Nat) "NameSeeker$Name" "letterBits" "I") ∈ TB := tbI 105 rfl rfl
set_option maxRecDepth 100000 in
theorem tb_121 : (Jvm.Cond.fieldLink "NameSeeker$Lot" (11 : Nat) "NameSeeker$Lot" "names" "[LNameSeeker$Name;") ∈ TB := tbI 121 rfl rfl
set_option maxRecDepth 100000 in
theorem tb_122 : (Jvm.Cond.fieldLink "NameSeeker$Ranking" (33 : Nat) "NameSeeker$Lot" "names" "[LNameSeeker$Name;") ∈ TB := tbI 122 rfl rfl
set_option maxRecDepth 100000 in
theorem tb_123 : (Jvm.Cond.fieldLink "NameSeeker" (122 : Nat) "NameSeeker$Lot" "names" "[LNameSeeker$Name;") ∈ TB := tbI 123 rfl rfl
set_option maxRecDepth 100000 in
theorem tb_124 : (Jvm.Cond.fieldLink "NameSeeker$Lot" (17 : Nat) "NameSeeker$Lot" "size" "I") ∈ TB := tbI 124 rfl rfl
set_option maxRecDepth 100000 in
theorem tb_125 : (Jvm.Cond.fieldLink "NameSeeker$Ranking" (22 : Nat) "NameSeeker$Lot" "size" "I") ∈ TB := tbI 125 rfl rfl
set_option maxRecDepth 100000 in
theorem tb_126 : (Jvm.Cond.fieldLink "NameSeeker" (117 : Nat) "NameSeeker$Lot" "size" "I") ∈ TB := tbI 126 rfl rfl
set_option maxRecDepth 100000 in
theorem tb_127 : (Jvm.Cond.fieldLink "NameSeeker$Lot" (21 : Nat) "NameSeeker$Lot" "laid" "I") ∈ TB := tbI 127 rfl rfl
set_option maxRecDepth 100000 in
theorem tb_128 : (Jvm.Cond.fieldLink "NameSeeker" (298 : Nat) "NameSeeker$Lot" "laid" "I") ∈ TB := tbI 128 rfl rfl
set_option maxRecDepth 100000 in
theorem tb_136 : (Jvm.Cond.classLink "NameSeeker" (23 : Nat) "NameSeeker$Scales") ∈ TB := tbI 136 rfl rfl
set_option maxRecDepth 100000 in
theorem tb_137 : (Jvm.Cond.instantiable "NameSeeker$Scales" (3 : Nat)) ∈ TB := tbI 137 rfl rfl
set_option maxRecDepth 100000 in
theorem tb_139 : (Jvm.Cond.instanceMethod ({ cls := "NameSeeker$Scales", name := "<init>", desc := "()V" } : Jvm.MethodName)) ∈ TB := tbI 139 rfl rfl
set_option maxRecDepth 100000 in
theorem tb_140 : (Jvm.Cond.code ({ cls := "NameSeeker$Scales", name := "<init>", desc := "()V" } : Jvm.MethodName) prog_8_method_1_code (1 : Nat) (Option.none : Option Jvm.ClassFile.FieldType)) ∈ TB := tbI 140 rfl rfl
set_option maxRecDepth 100000 in
theorem tb_142 : (Jvm.Cond.fieldLink "NameSeeker$Scales" (9 : Nat) "NameSeeker$Scales" "beginning" "I") ∈ TB := tbI 142 rfl rfl
set_option maxRecDepth 100000 in
theorem tb_143 : (Jvm.Cond.fieldLink "NameSeeker" (289 : Nat) "NameSeeker$Scales" "beginning" "I") ∈ TB := tbI 143 rfl rfl
set_option maxRecDepth 100000 in
theorem tb_144 : (Jvm.Cond.fieldLink "NameSeeker$Scales" (15 : Nat) "NameSeeker$Scales" "row" "I") ∈ TB := tbI 144 rfl rfl
set_option maxRecDepth 100000 in
theorem tb_145 : (Jvm.Cond.fieldLink "NameSeeker" (292 : Nat) "NameSeeker$Scales" "row" "I") ∈ TB := tbI 145 rfl rfl
set_option maxRecDepth 100000 in
theorem tb_146 : (Jvm.Cond.fieldLink "NameSeeker$Scales" (18 : Nat) "NameSeeker$Scales" "gap" "I") ∈ TB := tbI 146 rfl rfl
set_option maxRecDepth 100000 in
theorem tb_147 : (Jvm.Cond.fieldLink "NameSeeker" (295 : Nat) "NameSeeker$Scales" "gap" "I") ∈ TB := tbI 147 rfl rfl
set_option maxRecDepth 100000 in
theorem tb_155 : (Jvm.Cond.classLink "NameSeeker" (30 : Nat) "NameSeeker$Word") ∈ TB := tbI 155 rfl rfl
set_option maxRecDepth 100000 in
theorem tb_156 : (Jvm.Cond.instantiable "NameSeeker$Word" (2 : Nat)) ∈ TB := tbI 156 rfl rfl
set_option maxRecDepth 100000 in
theorem tb_158 : (Jvm.Cond.instanceMethod ({ cls := "NameSeeker$Word", name := "<init>", desc := "()V" } : Jvm.MethodName)) ∈ TB := tbI 158 rfl rfl
set_option maxRecDepth 100000 in
theorem tb_159 : (Jvm.Cond.code ({ cls := "NameSeeker$Word", name := "<init>", desc := "()V" } : Jvm.MethodName) prog_10_method_1_code (1 : Nat) (Option.none : Option Jvm.ClassFile.FieldType)) ∈ TB := tbI 159 rfl rfl
set_option maxRecDepth 100000 in
theorem tb_161 : (Jvm.Cond.fieldLink "NameSeeker$Word" (9 : Nat) "NameSeeker$Word" "letters" "[C") ∈ TB := tbI 161 rfl rfl
set_option maxRecDepth 100000 in
theorem tb_162 : (Jvm.Cond.fieldLink "NameSeeker$Laying" (39 : Nat) "NameSeeker$Word" "letters" "[C") ∈ TB := tbI 162 rfl rfl
set_option maxRecDepth 100000 in
theorem tb_163 : (Jvm.Cond.fieldLink "NameSeeker" (190 : Nat) "NameSeeker$Word" "letters" "[C") ∈ TB := tbI 163 rfl rfl
set_option maxRecDepth 100000 in
theorem tb_164 : (Jvm.Cond.fieldLink "NameSeeker$Word" (15 : Nat) "NameSeeker$Word" "size" "I") ∈ TB := tbI 164 rfl rfl
set_option maxRecDepth 100000 in
theorem tb_165 : (Jvm.Cond.fieldLink "NameSeeker$Laying" (27 : Nat) "NameSeeker$Word" "size" "I") ∈ TB := tbI 165 rfl rfl
set_option maxRecDepth 100000 in
theorem tb_166 : (Jvm.Cond.fieldLink "NameSeeker" (182 : Nat) "NameSeeker$Word" "size" "I") ∈ TB := tbI 166 rfl rfl
set_option maxRecDepth 100000 in
theorem tb_173 : (Jvm.Cond.classLink "NameSeeker" (44 : Nat) "NameSeeker$Laying") ∈ TB := tbI 173 rfl rfl
set_option maxRecDepth 100000 in
theorem tb_174 : (Jvm.Cond.instantiable "NameSeeker$Laying" (4 : Nat)) ∈ TB := tbI 174 rfl rfl
set_option maxRecDepth 100000 in
theorem tb_176 : (Jvm.Cond.instanceMethod ({ cls := "NameSeeker$Laying", name := "<init>", desc := "()V" } : Jvm.MethodName)) ∈ TB := tbI 176 rfl rfl
set_option maxRecDepth 100000 in
theorem tb_177 : (Jvm.Cond.code ({ cls := "NameSeeker$Laying", name := "<init>", desc := "()V" } : Jvm.MethodName) prog_4_method_1_code (1 : Nat) (Option.none : Option Jvm.ClassFile.FieldType)) ∈ TB := tbI 177 rfl rfl
set_option maxRecDepth 100000 in
theorem tb_179 : (Jvm.Cond.classLink "NameSeeker$Laying" (9 : Nat) "[[I") ∈ TB := tbI 179 rfl rfl
set_option maxRecDepth 100000 in
theorem tb_181 : (Jvm.Cond.fieldLink "NameSeeker$Laying" (11 : Nat) "NameSeeker$Laying" "tails" "[[I") ∈ TB := tbI 181 rfl rfl
set_option maxRecDepth 100000 in
theorem tb_182 : (Jvm.Cond.fieldLink "NameSeeker$Laying" (16 : Nat) "NameSeeker$Laying" "nexts" "[[I") ∈ TB := tbI 182 rfl rfl
set_option maxRecDepth 100000 in
theorem tb_183 : (Jvm.Cond.fieldLink "NameSeeker$Laying" (19 : Nat) "NameSeeker$Laying" "counts" "[I") ∈ TB := tbI 183 rfl rfl
set_option maxRecDepth 100000 in
theorem tb_184 : (Jvm.Cond.fieldLink "NameSeeker$Laying" (23 : Nat) "NameSeeker$Laying" "bestFirst" "I") ∈ TB := tbI 184 rfl rfl
set_option maxRecDepth 100000 in
theorem tb_194 : (Jvm.Cond.arrayClass Jvm.ClassFile.FieldType.int) ∈ TB := tbI 194 rfl rfl
set_option maxRecDepth 100000 in
theorem tb_195 : (Jvm.Cond.classLink "NameSeeker" (51 : Nat) "NameSeeker$Known") ∈ TB := tbI 195 rfl rfl
set_option maxRecDepth 100000 in
theorem tb_196 : (Jvm.Cond.instantiable "NameSeeker$Known" (6 : Nat)) ∈ TB := tbI 196 rfl rfl
set_option maxRecDepth 100000 in
theorem tb_198 : (Jvm.Cond.instanceMethod ({ cls := "NameSeeker$Known", name := "<init>", desc := "()V" } : Jvm.MethodName)) ∈ TB := tbI 198 rfl rfl
set_option maxRecDepth 100000 in
theorem tb_199 : (Jvm.Cond.code ({ cls := "NameSeeker$Known", name := "<init>", desc := "()V" } : Jvm.MethodName) prog_3_method_1_code (1 : Nat) (Option.none : Option Jvm.ClassFile.FieldType)) ∈ TB := tbI 199 rfl rfl
set_option maxRecDepth 100000 in
theorem tb_201 : (Jvm.Cond.fieldLink "NameSeeker$Known" (9 : Nat) "NameSeeker$Known" "ids" "[I") ∈ TB := tbI 201 rfl rfl
set_option maxRecDepth 100000 in
theorem tb_202 : (Jvm.Cond.fieldLink "NameSeeker$Known" (15 : Nat) "NameSeeker$Known" "codes" "[J") ∈ TB := tbI 202 rfl rfl
set_option maxRecDepth 100000 in
theorem tb_203 : (Jvm.Cond.fieldLink "NameSeeker$Known" (19 : Nat) "NameSeeker$Known" "ages" "[I") ∈ TB := tbI 203 rfl rfl
set_option maxRecDepth 100000 in
theorem tb_204 : (Jvm.Cond.fieldLink "NameSeeker$Known" (22 : Nat) "NameSeeker$Known" "scores" "[I") ∈ TB := tbI 204 rfl rfl
set_option maxRecDepth 100000 in
theorem tb_205 : (Jvm.Cond.fieldLink "NameSeeker" (270 : Nat) "NameSeeker$Known" "scores" "[I") ∈ TB := tbI 205 rfl rfl
set_option maxRecDepth 100000 in
theorem tb_206 : (Jvm.Cond.fieldLink "NameSeeker$Known" (25 : Nat) "NameSeeker$Known" "hits" "I") ∈ TB := tbI 206 rfl rfl
set_option maxRecDepth 100000 in
theorem tb_207 : (Jvm.Cond.fieldLink "NameSeeker" (267 : Nat) "NameSeeker$Known" "hits" "I") ∈ TB := tbI 207 rfl rfl
set_option maxRecDepth 100000 in
theorem tb_208 : (Jvm.Cond.fieldLink "NameSeeker$Known" (29 : Nat) "NameSeeker$Known" "misses" "I") ∈ TB := tbI 208 rfl rfl
set_option maxRecDepth 100000 in
theorem tb_209 : (Jvm.Cond.fieldLink "NameSeeker" (273 : Nat) "NameSeeker$Known" "misses" "I") ∈ TB := tbI 209 rfl rfl
set_option maxRecDepth 100000 in
theorem tb_223 : (Jvm.Cond.arrayClass Jvm.ClassFile.FieldType.long) ∈ TB := tbI 223 rfl rfl
set_option maxRecDepth 100000 in
theorem tb_224 : (Jvm.Cond.classLink "NameSeeker" (58 : Nat) "NameSeeker$Asked") ∈ TB := tbI 224 rfl rfl
set_option maxRecDepth 100000 in
theorem tb_225 : (Jvm.Cond.instantiable "NameSeeker$Asked" (2 : Nat)) ∈ TB := tbI 225 rfl rfl
set_option maxRecDepth 100000 in
theorem tb_227 : (Jvm.Cond.instanceMethod ({ cls := "NameSeeker$Asked", name := "<init>", desc := "()V" } : Jvm.MethodName)) ∈ TB := tbI 227 rfl rfl
set_option maxRecDepth 100000 in
theorem tb_228 : (Jvm.Cond.code ({ cls := "NameSeeker$Asked", name := "<init>", desc := "()V" } : Jvm.MethodName) prog_2_method_1_code (1 : Nat) (Option.none : Option Jvm.ClassFile.FieldType)) ∈ TB := tbI 228 rfl rfl
set_option maxRecDepth 100000 in
theorem tb_230 : (Jvm.Cond.fieldLink "NameSeeker$Asked" (9 : Nat) "NameSeeker$Asked" "codes" "[J") ∈ TB := tbI 230 rfl rfl
set_option maxRecDepth 100000 in
theorem tb_231 : (Jvm.Cond.fieldLink "NameSeeker" (242 : Nat) "NameSeeker$Asked" "codes" "[J") ∈ TB := tbI 231 rfl rfl
set_option maxRecDepth 100000 in
theorem tb_232 : (Jvm.Cond.fieldLink "NameSeeker$Asked" (15 : Nat) "NameSeeker$Asked" "size" "I") ∈ TB := tbI 232 rfl rfl
set_option maxRecDepth 100000 in
theorem tb_233 : (Jvm.Cond.fieldLink "NameSeeker" (241 : Nat) "NameSeeker$Asked" "size" "I") ∈ TB := tbI 233 rfl rfl
set_option maxRecDepth 100000 in
theorem tb_239 : (Jvm.Cond.classLink "NameSeeker" (65 : Nat) "NameSeeker$Ranking") ∈ TB := tbI 239 rfl rfl
set_option maxRecDepth 100000 in
theorem tb_240 : (Jvm.Cond.instantiable "NameSeeker$Ranking" (3 : Nat)) ∈ TB := tbI 240 rfl rfl
set_option maxRecDepth 100000 in
theorem tb_242 : (Jvm.Cond.instanceMethod ({ cls := "NameSeeker$Ranking", name := "<init>", desc := "()V" } : Jvm.MethodName)) ∈ TB := tbI 242 rfl rfl
set_option maxRecDepth 100000 in
theorem tb_243 : (Jvm.Cond.code ({ cls := "NameSeeker$Ranking", name := "<init>", desc := "()V" } : Jvm.MethodName) prog_7_method_1_code (1 : Nat) (Option.none : Option Jvm.ClassFile.FieldType)) ∈ TB := tbI 243 rfl rfl
set_option maxRecDepth 100000 in
theorem tb_245 : (Jvm.Cond.fieldLink "NameSeeker$Ranking" (9 : Nat) "NameSeeker$Ranking" "scores" "[I") ∈ TB := tbI 245 rfl rfl
set_option maxRecDepth 100000 in
theorem tb_246 : (Jvm.Cond.fieldLink "NameSeeker" (280 : Nat) "NameSeeker$Ranking" "scores" "[I") ∈ TB := tbI 246 rfl rfl
set_option maxRecDepth 100000 in
theorem tb_247 : (Jvm.Cond.fieldLink "NameSeeker$Ranking" (15 : Nat) "NameSeeker$Ranking" "numbers" "[I") ∈ TB := tbI 247 rfl rfl
set_option maxRecDepth 100000 in
theorem tb_248 : (Jvm.Cond.fieldLink "NameSeeker" (222 : Nat) "NameSeeker$Ranking" "numbers" "[I") ∈ TB := tbI 248 rfl rfl
set_option maxRecDepth 100000 in
theorem tb_249 : (Jvm.Cond.fieldLink "NameSeeker$Ranking" (18 : Nat) "NameSeeker$Ranking" "size" "I") ∈ TB := tbI 249 rfl rfl
set_option maxRecDepth 100000 in
theorem tb_250 : (Jvm.Cond.fieldLink "NameSeeker" (221 : Nat) "NameSeeker$Ranking" "size" "I") ∈ TB := tbI 250 rfl rfl
set_option maxRecDepth 100000 in
theorem tb_307 : (Jvm.Cond.methodLink "NameSeeker" (97 : Nat) ({ cls := "NameSeeker$Text", name := "append", desc := "(C)V" } : Jvm.MethodName)) ∈ TB := tbI 307 rfl rfl
set_option maxRecDepth 100000 in
theorem tb_308 : (Jvm.Cond.instanceMethod ({ cls := "NameSeeker$Text", name := "append", desc := "(C)V" } : Jvm.MethodName)) ∈ TB := tbI 308 rfl rfl
set_option maxRecDepth 100000 in
theorem tb_309 : (Jvm.Cond.selects "NameSeeker$Text" ({ cls := "NameSeeker$Text", name := "append", desc := "(C)V" } : Jvm.MethodName) ({ cls := "NameSeeker$Text", name := "append", desc := "(C)V" } : Jvm.MethodName)) ∈ TB := tbI 309 rfl rfl
set_option maxRecDepth 100000 in
theorem tb_310 : (Jvm.Cond.code ({ cls := "NameSeeker$Text", name := "append", desc := "(C)V" } : Jvm.MethodName) prog_9_method_2_code (2 : Nat) (Option.none : Option Jvm.ClassFile.FieldType)) ∈ TB := tbI 310 rfl rfl
set_option maxRecDepth 100000 in
theorem tb_311 : (Jvm.Cond.methodLink "NameSeeker" (101 : Nat) ({ cls := "NameSeeker", name := "layText", desc := "()V" } : Jvm.MethodName)) ∈ TB := tbI 311 rfl rfl
set_option maxRecDepth 100000 in
theorem tb_313 : (Jvm.Cond.instanceMethod ({ cls := "NameSeeker", name := "layText", desc := "()V" } : Jvm.MethodName)) ∈ TB := tbI 313 rfl rfl
set_option maxRecDepth 100000 in
theorem tb_314 : (Jvm.Cond.code ({ cls := "NameSeeker", name := "layText", desc := "()V" } : Jvm.MethodName) prog_1_method_8_code (3 : Nat) (Option.none : Option Jvm.ClassFile.FieldType)) ∈ TB := tbI 314 rfl rfl
set_option maxRecDepth 100000 in
theorem tb_315 : (Jvm.Cond.methodLink "NameSeeker" (145 : Nat) ({ cls := "NameSeeker$Lot", name := "clear", desc := "()V" } : Jvm.MethodName)) ∈ TB := tbI 315 rfl rfl
set_option maxRecDepth 100000 in
theorem tb_316 : (Jvm.Cond.instanceMethod ({ cls := "NameSeeker$Lot", name := "clear", desc := "()V" } : Jvm.MethodName)) ∈ TB := tbI 316 rfl rfl
set_option maxRecDepth 100000 in
theorem tb_317 : (Jvm.Cond.selects "NameSeeker$Lot" ({ cls := "NameSeeker$Lot", name := "clear", desc := "()V" } : Jvm.MethodName) ({ cls := "NameSeeker$Lot", name := "clear", desc := "()V" } : Jvm.MethodName)) ∈ TB := tbI 317 rfl rfl
set_option maxRecDepth 100000 in
theorem tb_318 : (Jvm.Cond.code ({ cls := "NameSeeker$Lot", name := "clear", desc := "()V" } : Jvm.MethodName) prog_5_method_3_code (1 : Nat) (Option.none : Option Jvm.ClassFile.FieldType)) ∈ TB := tbI 318 rfl rfl
set_option maxRecDepth 100000 in
theorem tb_319 : (Jvm.Cond.methodLink "NameSeeker" (147 : Nat) ({ cls := "NameSeeker$Scales", name := "setDefaults", desc := "()V" } : Jvm.MethodName)) ∈ TB := tbI 319 rfl rfl
set_option maxRecDepth 100000 in
theorem tb_320 : (Jvm.Cond.instanceMethod ({ cls := "NameSeeker$Scales", name := "setDefaults", desc := "()V" } : Jvm.MethodName)) ∈ TB := tbI 320 rfl rfl
set_option maxRecDepth 100000 in
theorem tb_321 : (Jvm.Cond.selects "NameSeeker$Scales" ({ cls := "NameSeeker$Scales", name := "setDefaults", desc := "()V" } : Jvm.MethodName) ({ cls := "NameSeeker$Scales", name := "setDefaults", desc := "()V" } : Jvm.MethodName)) ∈ TB := tbI 321 rfl rfl
set_option maxRecDepth 100000 in
theorem tb_322 : (Jvm.Cond.code ({ cls := "NameSeeker$Scales", name := "setDefaults", desc := "()V" } : Jvm.MethodName) prog_8_method_3_code (1 : Nat) (Option.none : Option Jvm.ClassFile.FieldType)) ∈ TB := tbI 322 rfl rfl
set_option maxRecDepth 100000 in
theorem tb_323 : (Jvm.Cond.methodLink "NameSeeker$Scales" (21 : Nat) ({ cls := "NameSeeker$Scales", name := "set", desc := "(III)V" } : Jvm.MethodName)) ∈ TB := tbI 323 rfl rfl
set_option maxRecDepth 100000 in
theorem tb_324 : (Jvm.Cond.instanceMethod ({ cls := "NameSeeker$Scales", name := "set", desc := "(III)V" } : Jvm.MethodName)) ∈ TB := tbI 324 rfl rfl
set_option maxRecDepth 100000 in
theorem tb_325 : (Jvm.Cond.selects "NameSeeker$Scales" ({ cls := "NameSeeker$Scales", name := "set", desc := "(III)V" } : Jvm.MethodName) ({ cls := "NameSeeker$Scales", name := "set", desc := "(III)V" } : Jvm.MethodName)) ∈ TB := tbI 325 rfl rfl
set_option maxRecDepth 100000 in
theorem tb_326 : (Jvm.Cond.code ({ cls := "NameSeeker$Scales", name := "set", desc := "(III)V" } : Jvm.MethodName) prog_8_method_4_code (4 : Nat) (Option.none : Option Jvm.ClassFile.FieldType)) ∈ TB := tbI 326 rfl rfl
set_option maxRecDepth 100000 in
theorem tb_327 : (Jvm.Cond.methodLink "NameSeeker" (150 : Nat) ({ cls := "NameSeeker", name := "readItem", desc := "(I)V" } : Jvm.MethodName)) ∈ TB := tbI 327 rfl rfl
set_option maxRecDepth 100000 in
theorem tb_329 : (Jvm.Cond.instanceMethod ({ cls := "NameSeeker", name := "readItem", desc := "(I)V" } : Jvm.MethodName)) ∈ TB := tbI 329 rfl rfl
set_option maxRecDepth 100000 in
theorem tb_330 : (Jvm.Cond.code ({ cls := "NameSeeker", name := "readItem", desc := "(I)V" } : Jvm.MethodName) prog_1_method_9_code (4 : Nat) (Option.none : Option Jvm.ClassFile.FieldType)) ∈ TB := tbI 330 rfl rfl
set_option maxRecDepth 100000 in
theorem tb_331 : (Jvm.Cond.methodLink "NameSeeker" (159 : Nat) ({ cls := "NameSeeker$Text", name := "at", desc := "(I)C" } : Jvm.MethodName)) ∈ TB := tbI 331 rfl rfl
set_option maxRecDepth 100000 in
theorem tb_332 : (Jvm.Cond.instanceMethod ({ cls := "NameSeeker$Text", name := "at", desc := "(I)C" } : Jvm.MethodName)) ∈ TB := tbI 332 rfl rfl
set_option maxRecDepth 100000 in
theorem tb_333 : (Jvm.Cond.selects "NameSeeker$Text" ({ cls := "NameSeeker$Text", name := "at", desc := "(I)C" } : Jvm.MethodName) ({ cls := "NameSeeker$Text", name := "at", desc := "(I)C" } : Jvm.MethodName)) ∈ TB := tbI 333 rfl rfl
set_option maxRecDepth 100000 in
theorem tb_334 : (Jvm.Cond.code ({ cls := "NameSeeker$Text", name := "at", desc := "(I)C" } : Jvm.MethodName) prog_9_method_4_code (2 : Nat) (Option.some Jvm.ClassFile.FieldType.char)) ∈ TB := tbI 334 rfl rfl
set_option maxRecDepth 100000 in
theorem tb_335 : (Jvm.Cond.methodLink "NameSeeker" (162 : Nat) ({ cls := "NameSeeker$Text", name := "figureAt", desc := "(I)I" } : Jvm.MethodName)) ∈ TB := tbI 335 rfl rfl
set_option maxRecDepth 100000 in
theorem tb_336 : (Jvm.Cond.instanceMethod ({ cls := "NameSeeker$Text", name := "figureAt", desc := "(I)I" } : Jvm.MethodName)) ∈ TB := tbI 336 rfl rfl
set_option maxRecDepth 100000 in
theorem tb_337 : (Jvm.Cond.selects "NameSeeker$Text" ({ cls := "NameSeeker$Text", name := "figureAt", desc := "(I)I" } : Jvm.MethodName) ({ cls := "NameSeeker$Text", name := "figureAt", desc := "(I)I" } : Jvm.MethodName)) ∈ TB := tbI 337 rfl rfl
set_option maxRecDepth 100000 in
theorem tb_338 : (Jvm.Cond.code ({ cls := "NameSeeker$Text", name := "figureAt", desc := "(I)I" } : Jvm.MethodName) prog_9_method_5_code (2 : Nat) (Option.some Jvm.ClassFile.FieldType.int)) ∈ TB := tbI 338 rfl rfl
set_option maxRecDepth 100000 in
theorem tb_339 : (Jvm.Cond.methodLink "NameSeeker$Text" (19 : Nat) ({ cls := "NameSeeker$Text", name := "at", desc := "(I)C" } : Jvm.MethodName)) ∈ TB := tbI 339 rfl rfl
set_option maxRecDepth 100000 in
theorem tb_340 : (Jvm.Cond.methodLink "NameSeeker" (165 : Nat) ({ cls := "NameSeeker$Scales", name := "set", desc := "(III)V" } : Jvm.MethodName)) ∈ TB := tbI 340 rfl rfl
set_option maxRecDepth 100000 in
theorem tb_341 : (Jvm.Cond.methodLink "NameSeeker" (169 : Nat) ({ cls := "NameSeeker$Lot", name := "addName", desc := "(I)LNameSeeker$Name;" } : Jvm.MethodName)) ∈ TB := tbI 341 rfl rfl
set_option maxRecDepth 100000 in
theorem tb_342 : (Jvm.Cond.instanceMethod ({ cls := "NameSeeker$Lot", name := "addName", desc := "(I)LNameSeeker$Name;" } : Jvm.MethodName)) ∈ TB := tbI 342 rfl rfl
set_option maxRecDepth 100000 in
theorem tb_343 : (Jvm.Cond.selects "NameSeeker$Lot" ({ cls := "NameSeeker$Lot", name := "addName", desc := "(I)LNameSeeker$Name;" } : Jvm.MethodName) ({ cls := "NameSeeker$Lot", name := "addName", desc := "(I)LNameSeeker$Name;" } : Jvm.MethodName)) ∈ TB := tbI 343 rfl rfl
set_option maxRecDepth 100000 in
theorem tb_344 : (Jvm.Cond.code ({ cls := "NameSeeker$Lot", name := "addName", desc := "(I)LNameSeeker$Name;" } : Jvm.MethodName) prog_5_method_4_code (3 : Nat) (Option.some (Jvm.ClassFile.FieldType.object "NameSeeker$Name"))) ∈ TB := tbI 344 rfl rfl
set_option maxRecDepth 100000 in
theorem tb_345 : (Jvm.Cond.methodLink "NameSeeker$Lot" (25 : Nat) ({ cls := "NameSeeker$Name", name := "reset", desc := "(II)V" } : Jvm.MethodName)) ∈ TB := tbI 345 rfl rfl
set_option maxRecDepth 100000 in
theorem tb_346 : (Jvm.Cond.instanceMethod ({ cls := "NameSeeker$Name", name := "reset", desc := "(II)V" } : Jvm.MethodName)) ∈ TB := tbI 346 rfl rfl
set_option maxRecDepth 100000 in
theorem tb_347 : (Jvm.Cond.selects "NameSeeker$Name" ({ cls := "NameSeeker$Name", name := "reset", desc := "(II)V" } : Jvm.MethodName) ({ cls := "NameSeeker$Name", name := "reset", desc := "(II)V" } : Jvm.MethodName)) ∈ TB := tbI 347 rfl rfl
set_option maxRecDepth 100000 in
theorem tb_348 : (Jvm.Cond.code ({ cls := "NameSeeker$Name", name := "reset", desc := "(II)V" } : Jvm.MethodName) prog_6_method_2_code (3 : Nat) (Option.none : Option Jvm.ClassFile.FieldType)) ∈ TB := tbI 348 rfl rfl
set_option maxRecDepth 100000 in
theorem tb_349 : (Jvm.Cond.methodLink "NameSeeker" (173 : Nat) ({ cls := "NameSeeker", name := "isSign", desc := "(I)Z" } : Jvm.MethodName)) ∈ TB := tbI 349 rfl rfl
set_option maxRecDepth 100000 in
theorem tb_350 : (Jvm.Cond.static ({ cls := "NameSeeker", name := "isSign", desc := "(I)Z" } : Jvm.MethodName)) ∈ TB := tbI 350 rfl rfl
set_option maxRecDepth 100000 in
theorem tb_351 : (Jvm.Cond.code ({ cls := "NameSeeker", name := "isSign", desc := "(I)Z" } : Jvm.MethodName) prog_1_method_36_code (1 : Nat) (Option.some Jvm.ClassFile.FieldType.boolean)) ∈ TB := tbI 351 rfl rfl
set_option maxRecDepth 100000 in
theorem tb_352 : (Jvm.Cond.methodLink "NameSeeker" (179 : Nat) ({ cls := "NameSeeker", name := "isLetter", desc := "(I)Z" } : Jvm.MethodName)) ∈ TB := tbI 352 rfl rfl
set_option maxRecDepth 100000 in
theorem tb_353 : (Jvm.Cond.static ({ cls := "NameSeeker", name := "isLetter", desc := "(I)Z" } : Jvm.MethodName)) ∈ TB := tbI 353 rfl rfl
set_option maxRecDepth 100000 in
theorem tb_354 : (Jvm.Cond.code ({ cls := "NameSeeker", name := "isLetter", desc := "(I)Z" } : Jvm.MethodName) prog_1_method_35_code (1 : Nat) (Option.some Jvm.ClassFile.FieldType.boolean)) ∈ TB := tbI 354 rfl rfl
set_option maxRecDepth 100000 in
theorem tb_355 : (Jvm.Cond.methodLink "NameSeeker" (301 : Nat) ({ cls := "NameSeeker", name := "isSmall", desc := "(I)Z" } : Jvm.MethodName)) ∈ TB := tbI 355 rfl rfl
set_option maxRecDepth 100000 in
theorem tb_356 : (Jvm.Cond.static ({ cls := "NameSeeker", name := "isSmall", desc := "(I)Z" } : Jvm.MethodName)) ∈ TB := tbI 356 rfl rfl
set_option maxRecDepth 100000 in
theorem tb_357 : (Jvm.Cond.code ({ cls := "NameSeeker", name := "isSmall", desc := "(I)Z" } : Jvm.MethodName) prog_1_method_33_code (1 : Nat) (Option.some Jvm.ClassFile.FieldType.boolean)) ∈ TB := tbI 357 rfl rfl
set_option maxRecDepth 100000 in
theorem tb_358 : (Jvm.Cond.methodLink "NameSeeker" (304 : Nat) ({ cls := "NameSeeker", name := "isGreat", desc := "(I)Z" } : Jvm.MethodName)) ∈ TB := tbI 358 rfl rfl
set_option maxRecDepth 100000 in
theorem tb_359 : (Jvm.Cond.static ({ cls := "NameSeeker", name := "isGreat", desc := "(I)Z" } : Jvm.MethodName)) ∈ TB := tbI 359 rfl rfl
set_option maxRecDepth 100000 in
theorem tb_360 : (Jvm.Cond.code ({ cls := "NameSeeker", name := "isGreat", desc := "(I)Z" } : Jvm.MethodName) prog_1_method_34_code (1 : Nat) (Option.some Jvm.ClassFile.FieldType.boolean)) ∈ TB := tbI 360 rfl rfl
set_option maxRecDepth 100000 in
theorem tb_361 : (Jvm.Cond.methodLink "NameSeeker" (176 : Nat) ({ cls := "NameSeeker$Name", name := "addSign", desc := "(C)V" } : Jvm.MethodName)) ∈ TB := tbI 361 rfl rfl
set_option maxRecDepth 100000 in
theorem tb_362 : (Jvm.Cond.instanceMethod ({ cls := "NameSeeker$Name", name := "addSign", desc := "(C)V" } : Jvm.MethodName)) ∈ TB := tbI 362 rfl rfl
set_option maxRecDepth 100000 in
theorem tb_363 : (Jvm.Cond.selects "NameSeeker$Name" ({ cls := "NameSeeker$Name", name := "addSign", desc := "(C)V" } : Jvm.MethodName) ({ cls := "NameSeeker$Name", name := "addSign", desc := "(C)V" } : Jvm.MethodName)) ∈ TB := tbI 363 rfl rfl
set_option maxRecDepth 100000 in
theorem tb_364 : (Jvm.Cond.code ({ cls := "NameSeeker$Name", name := "addSign", desc := "(C)V" } : Jvm.MethodName) prog_6_method_3_code (2 : Nat) (Option.none : Option Jvm.ClassFile.FieldType)) ∈ TB := tbI 364 rfl rfl
set_option maxRecDepth 100000 in
theorem tb_365 : (Jvm.Cond.methodLink "NameSeeker$Name" (34 : Nat) ({ cls := "NameSeeker$Name", name := "wouldBegin", desc := "(C)Z" } : Jvm.MethodName)) ∈ TB := tbI 365 rfl rfl
set_option maxRecDepth 100000 in
theorem tb_367 : (Jvm.Cond.instanceMethod ({ cls := "NameSeeker$Name", name := "wouldBegin", desc := "(C)Z" } : Jvm.MethodName)) ∈ TB := tbI 367 rfl rfl
set_option maxRecDepth 100000 in
theorem tb_368 : (Jvm.Cond.code ({ cls := "NameSeeker$Name", name := "wouldBegin", desc := "(C)Z" } : Jvm.MethodName) prog_6_method_4_code (3 : Nat) (Option.some Jvm.ClassFile.FieldType.boolean)) ∈ TB := tbI 368 rfl rfl
set_option maxRecDepth 100000 in
theorem tb_373 : (Jvm.Cond.static ({ cls := "NameSeeker", name := "letterNumber", desc := "(I)I" } : Jvm.MethodName)) ∈ TB := tbI 373 rfl rfl
set_option maxRecDepth 100000 in
theorem tb_374 : (Jvm.Cond.code ({ cls := "NameSeeker", name := "letterNumber", desc := "(I)I" } : Jvm.MethodName) prog_1_method_37_code (1 : Nat) (Option.some Jvm.ClassFile.FieldType.int)) ∈ TB := tbI 374 rfl rfl
set_option maxRecDepth 100000 in
theorem tb_375 : (Jvm.Cond.methodLink "NameSeeker" (154 : Nat) ({ cls := "NameSeeker$Text", name := "behindItem", desc := "(I)I" } : Jvm.MethodName)) ∈ TB := tbI 375 rfl rfl
set_option maxRecDepth 100000 in
theorem tb_376 : (Jvm.Cond.instanceMethod ({ cls := "NameSeeker$Text", name := "behindItem", desc := "(I)I" } : Jvm.MethodName)) ∈ TB := tbI 376 rfl rfl
set_option maxRecDepth 100000 in
theorem tb_377 : (Jvm.Cond.selects "NameSeeker$Text" ({ cls := "NameSeeker$Text", name := "behindItem", desc := "(I)I" } : Jvm.MethodName) ({ cls := "NameSeeker$Text", name := "behindItem", desc := "(I)I" } : Jvm.MethodName)) ∈ TB := tbI 377 rfl rfl
set_option maxRecDepth 100000 in
theorem tb_378 : (Jvm.Cond.code ({ cls := "NameSeeker$Text", name := "behindItem", desc := "(I)I" } : Jvm.MethodName) prog_9_method_8_code (2 : Nat) (Option.some Jvm.ClassFile.FieldType.int)) ∈ TB := tbI 378 rfl rfl
set_option maxRecDepth 100000 in
theorem tb_379 : (Jvm.Cond.methodLink "NameSeeker$Text" (27 : Nat) ({ cls := "NameSeeker$Text", name := "behindName", desc := "(I)I" } : Jvm.MethodName)) ∈ TB := tbI 379 rfl rfl
set_option maxRecDepth 100000 in
theorem tb_381 : (Jvm.Cond.instanceMethod ({ cls := "NameSeeker$Text", name := "behindName", desc := "(I)I" } : Jvm.MethodName)) ∈ TB := tbI 381 rfl rfl
set_option maxRecDepth 100000 in
theorem tb_382 : (Jvm.Cond.code ({ cls := "NameSeeker$Text", name := "behindName", desc := "(I)I" } : Jvm.MethodName) prog_9_method_9_code (4 : Nat) (Option.some Jvm.ClassFile.FieldType.int)) ∈ TB := tbI 382 rfl rfl
set_option maxRecDepth 100000 in
theorem tb_383 : (Jvm.Cond.methodLink "NameSeeker$Text" (33 : Nat) ({ cls := "NameSeeker$Text", name := "isFigure", desc := "(II)Z" } : Jvm.MethodName)) ∈ TB := tbI 383 rfl rfl
set_option maxRecDepth 100000 in
theorem tb_385 : (Jvm.Cond.instanceMethod ({ cls := "NameSeeker$Text", name := "isFigure", desc := "(II)Z" } : Jvm.MethodName)) ∈ TB := tbI 385 rfl rfl
set_option maxRecDepth 100000 in
theorem tb_386 : (Jvm.Cond.code ({ cls := "NameSeeker$Text", name := "isFigure", desc := "(II)Z" } : Jvm.MethodName) prog_9_method_11_code (3 : Nat) (Option.some Jvm.ClassFile.FieldType.boolean)) ∈ TB := tbI 386 rfl rfl
set_option maxRecDepth 100000 in
theorem tb_387 : (Jvm.Cond.methodLink "NameSeeker$Text" (41 : Nat) ({ cls := "NameSeeker$Text", name := "figureAt", desc := "(I)I" } : Jvm.MethodName)) ∈ TB := tbI 387 rfl rfl
set_option maxRecDepth 100000 in
theorem tb_389 : (Jvm.Cond.methodLink "NameSeeker$Text" (30 : Nat) ({ cls := "NameSeeker$Text", name := "behindWorths", desc := "(I)I" } : Jvm.MethodName)) ∈ TB := tbI 389 rfl rfl
set_option maxRecDepth 100000 in
theorem tb_391 : (Jvm.Cond.instanceMethod ({ cls := "NameSeeker$Text", name := "behindWorths", desc := "(I)I" } : Jvm.MethodName)) ∈ TB := tbI 391 rfl rfl
set_option maxRecDepth 100000 in
theorem tb_392 : (Jvm.Cond.code ({ cls := "NameSeeker$Text", name := "behindWorths", desc := "(I)I" } : Jvm.MethodName) prog_9_method_10_code (3 : Nat) (Option.some Jvm.ClassFile.FieldType.int)) ∈ TB := tbI 392 rfl rfl
set_option maxRecDepth 100000 in
theorem tb_393 : (Jvm.Cond.methodLink "NameSeeker" (158 : Nat) ({ cls := "NameSeeker$Word", name := "clear", desc := "()V" } : Jvm.MethodName)) ∈ TB := tbI 393 rfl rfl
set_option maxRecDepth 100000 in
theorem tb_394 : (Jvm.Cond.instanceMethod ({ cls := "NameSeeker$Word", name := "clear", desc := "()V" } : Jvm.MethodName)) ∈ TB := tbI 394 rfl rfl
set_option maxRecDepth 100000 in
theorem tb_395 : (Jvm.Cond.selects "NameSeeker$Word" ({ cls := "NameSeeker$Word", name := "clear", desc := "()V" } : Jvm.MethodName) ({ cls := "NameSeeker$Word", name := "clear", desc := "()V" } : Jvm.MethodName)) ∈ TB := tbI 395 rfl rfl
set_option maxRecDepth 100000 in
theorem tb_396 : (Jvm.Cond.code ({ cls := "NameSeeker$Word", name := "clear", desc := "()V" } : Jvm.MethodName) prog_10_method_2_code (1 : Nat) (Option.none : Option Jvm.ClassFile.FieldType)) ∈ TB := tbI 396 rfl rfl
set_option maxRecDepth 100000 in
theorem tb_397 : (Jvm.Cond.methodLink "NameSeeker" (104 : Nat) ({ cls := "NameSeeker$Text", name := "clear", desc := "()I" } : Jvm.MethodName)) ∈ TB := tbI 397 rfl rfl
set_option maxRecDepth 100000 in
theorem tb_398 : (Jvm.Cond.instanceMethod ({ cls := "NameSeeker$Text", name := "clear", desc := "()I" } : Jvm.MethodName)) ∈ TB := tbI 398 rfl rfl
set_option maxRecDepth 100000 in
theorem tb_399 : (Jvm.Cond.selects "NameSeeker$Text" ({ cls := "NameSeeker$Text", name := "clear", desc := "()I" } : Jvm.MethodName) ({ cls := "NameSeeker$Text", name := "clear", desc := "()I" } : Jvm.MethodName)) ∈ TB := tbI 399 rfl rfl
set_option maxRecDepth 100000 in
theorem tb_400 : (Jvm.Cond.code ({ cls := "NameSeeker$Text", name := "clear", desc := "()I" } : Jvm.MethodName) prog_9_method_3_code (2 : Nat) (Option.some Jvm.ClassFile.FieldType.int)) ∈ TB := tbI 400 rfl rfl
set_option maxRecDepth 100000 in
theorem tb_401 : (Jvm.Cond.fieldLink "NameSeeker" (10 : Nat) "NameSeeker" "text" "LNameSeeker$Text;") ∈ TB := tbI 401 rfl rfl
set_option maxRecDepth 100000 in
theorem tb_402 : (Jvm.Cond.fieldLink "NameSeeker" (19 : Nat) "NameSeeker" "lot" "LNameSeeker$Lot;") ∈ TB := tbI 402 rfl rfl
set_option maxRecDepth 100000 in
theorem tb_403 : (Jvm.Cond.fieldLink "NameSeeker" (26 : Nat) "NameSeeker" "scales" "LNameSeeker$Scales;") ∈ TB := tbI 403 rfl rfl
set_option maxRecDepth 100000 in
theorem tb_404 : (Jvm.Cond.fieldLink "NameSeeker" (33 : Nat) "NameSeeker" "typed" "LNameSeeker$Word;") ∈ TB := tbI 404 rfl rfl
set_option maxRecDepth 100000 in
theorem tb_405 : (Jvm.Cond.fieldLink "NameSeeker" (37 : Nat) "NameSeeker" "tried" "LNameSeeker$Word;") ∈ TB := tbI 405 rfl rfl
set_option maxRecDepth 100000 in
theorem tb_406 : (Jvm.Cond.fieldLink "NameSeeker" (40 : Nat) "NameSeeker" "kept" "[LNameSeeker$Word;") ∈ TB := tbI 406 rfl rfl
set_option maxRecDepth 100000 in
theorem tb_407 : (Jvm.Cond.fieldLink "NameSeeker" (47 : Nat) "NameSeeker" "laying" "LNameSeeker$Laying;") ∈ TB := tbI 407 rfl rfl
set_option maxRecDepth 100000 in
theorem tb_408 : (Jvm.Cond.fieldLink "NameSeeker" (54 : Nat) "NameSeeker" "known" "LNameSeeker$Known;") ∈ TB := tbI 408 rfl rfl
set_option maxRecDepth 100000 in
theorem tb_409 : (Jvm.Cond.fieldLink "NameSeeker" (61 : Nat) "NameSeeker" "askedCodes" "LNameSeeker$Asked;") ∈ TB := tbI 409 rfl rfl
set_option maxRecDepth 100000 in
theorem tb_410 : (Jvm.Cond.fieldLink "NameSeeker" (68 : Nat) "NameSeeker" "ranking" "LNameSeeker$Ranking;") ∈ TB := tbI 410 rfl rfl
set_option maxRecDepth 100000 in
theorem tb_411 : (Jvm.Cond.fieldLink "NameSeeker" (72 : Nat) "NameSeeker" "keptSize" "I") ∈ TB := tbI 411 rfl rfl
set_option maxRecDepth 100000 in
theorem tb_412 : (Jvm.Cond.fieldLink "NameSeeker" (76 : Nat) "NameSeeker" "tick" "I") ∈ TB := tbI 412 rfl rfl
set_option maxRecDepth 100000 in
theorem tb_413 : (Jvm.Cond.fieldLink "NameSeeker" (79 : Nat) "NameSeeker" "age" "I") ∈ TB := tbI 413 rfl rfl
set_option maxRecDepth 100000 in
theorem tb_414 : (Jvm.Cond.fieldLink "NameSeeker" (82 : Nat) "NameSeeker" "seed" "I") ∈ TB := tbI 414 rfl rfl
set_option maxRecDepth 100000 in
theorem tb_444 : (Jvm.Cond.arrayClass Jvm.ClassFile.FieldType.byte) ∈ TB := tbI 444 rfl rfl
set_option maxRecDepth 100000 in
theorem tb_445 : (Jvm.Cond.methodLink "NameSeekerLaw" (13 : Nat) ({ cls := "NameSeeker", name := "write", desc := "(I)I" } : Jvm.MethodName)) ∈ TB := tbI 445 rfl rfl
set_option maxRecDepth 100000 in
theorem tb_446 : (Jvm.Cond.instanceMethod ({ cls := "NameSeeker", name := "write", desc := "(I)I" } : Jvm.MethodName)) ∈ TB := tbI 446 rfl rfl
set_option maxRecDepth 100000 in
theorem tb_447 : (Jvm.Cond.selects "NameSeeker" ({ cls := "NameSeeker", name := "write", desc := "(I)I" } : Jvm.MethodName) ({ cls := "NameSeeker", name := "write", desc := "(I)I" } : Jvm.MethodName)) ∈ TB := tbI 447 rfl rfl
set_option maxRecDepth 100000 in
theorem tb_448 : (Jvm.Cond.code ({ cls := "NameSeeker", name := "write", desc := "(I)I" } : Jvm.MethodName) prog_1_method_2_code (2 : Nat) (Option.some Jvm.ClassFile.FieldType.int)) ∈ TB := tbI 448 rfl rfl
set_option maxRecDepth 100000 in
theorem tb_449 : (Jvm.Cond.methodLink "NameSeekerLaw" (18 : Nat) ({ cls := "NameSeeker", name := "wipe", desc := "()I" } : Jvm.MethodName)) ∈ TB := tbI 449 rfl rfl
set_option maxRecDepth 100000 in
theorem tb_450 : (Jvm.Cond.instanceMethod ({ cls := "NameSeeker", name := "wipe", desc := "()I" } : Jvm.MethodName)) ∈ TB := tbI 450 rfl rfl
set_option maxRecDepth 100000 in
theorem tb_451 : (Jvm.Cond.selects "NameSeeker" ({ cls := "NameSeeker", name := "wipe", desc := "()I" } : Jvm.MethodName) ({ cls := "NameSeeker", name := "wipe", desc := "()I" } : Jvm.MethodName)) ∈ TB := tbI 451 rfl rfl
set_option maxRecDepth 100000 in
theorem tb_452 : (Jvm.Cond.code ({ cls := "NameSeeker", name := "wipe", desc := "()I" } : Jvm.MethodName) prog_1_method_3_code (1 : Nat) (Option.some Jvm.ClassFile.FieldType.int)) ∈ TB := tbI 452 rfl rfl
set_option maxRecDepth 100000 in
theorem tb_453 : (Jvm.Cond.methodLink "NameSeekerLaw" (23 : Nat) ({ cls := "NameSeeker", name := "fault", desc := "()I" } : Jvm.MethodName)) ∈ TB := tbI 453 rfl rfl
set_option maxRecDepth 100000 in
theorem tb_454 : (Jvm.Cond.instanceMethod ({ cls := "NameSeeker", name := "fault", desc := "()I" } : Jvm.MethodName)) ∈ TB := tbI 454 rfl rfl
set_option maxRecDepth 100000 in
theorem tb_455 : (Jvm.Cond.selects "NameSeeker" ({ cls := "NameSeeker", name := "fault", desc := "()I" } : Jvm.MethodName) ({ cls := "NameSeeker", name := "fault", desc := "()I" } : Jvm.MethodName)) ∈ TB := tbI 455 rfl rfl
set_option maxRecDepth 100000 in
theorem tb_456 : (Jvm.Cond.code ({ cls := "NameSeeker", name := "fault", desc := "()I" } : Jvm.MethodName) prog_1_method_4_code (1 : Nat) (Option.some Jvm.ClassFile.FieldType.int)) ∈ TB := tbI 456 rfl rfl
set_option maxRecDepth 100000 in
theorem tb_457 : (Jvm.Cond.methodLink "NameSeeker" (110 : Nat) ({ cls := "NameSeeker$Text", name := "firstFault", desc := "()I" } : Jvm.MethodName)) ∈ TB := tbI 457 rfl rfl
set_option maxRecDepth 100000 in
theorem tb_458 : (Jvm.Cond.instanceMethod ({ cls := "NameSeeker$Text", name := "firstFault", desc := "()I" } : Jvm.MethodName)) ∈ TB := tbI 458 rfl rfl
set_option maxRecDepth 100000 in
theorem tb_459 : (Jvm.Cond.selects "NameSeeker$Text" ({ cls := "NameSeeker$Text", name := "firstFault", desc := "()I" } : Jvm.MethodName) ({ cls := "NameSeeker$Text", name := "firstFault", desc := "()I" } : Jvm.MethodName)) ∈ TB := tbI 459 rfl rfl
set_option maxRecDepth 100000 in
theorem tb_460 : (Jvm.Cond.code ({ cls := "NameSeeker$Text", name := "firstFault", desc := "()I" } : Jvm.MethodName) prog_9_method_6_code (5 : Nat) (Option.some Jvm.ClassFile.FieldType.int)) ∈ TB := tbI 460 rfl rfl
set_option maxRecDepth 100000 in
theorem tb_461 : (Jvm.Cond.methodLink "NameSeeker$Text" (23 : Nat) ({ cls := "NameSeeker$Text", name := "behindItem", desc := "(I)I" } : Jvm.MethodName)) ∈ TB := tbI 461 rfl rfl
set_option maxRecDepth 100000 in
theorem tb_462 : (Jvm.Cond.methodLink "NameSeekerLaw" (27 : Nat) ({ cls := "NameSeeker", name := "lay", desc := "()I" } : Jvm.MethodName)) ∈ TB := tbI 462 rfl rfl
set_option maxRecDepth 100000 in
theorem tb_463 : (Jvm.Cond.instanceMethod ({ cls := "NameSeeker", name := "lay", desc := "()I" } : Jvm.MethodName)) ∈ TB := tbI 463 rfl rfl
set_option maxRecDepth 100000 in
theorem tb_464 : (Jvm.Cond.selects "NameSeeker" ({ cls := "NameSeeker", name := "lay", desc := "()I" } : Jvm.MethodName) ({ cls := "NameSeeker", name := "lay", desc := "()I" } : Jvm.MethodName)) ∈ TB := tbI 464 rfl rfl
set_option maxRecDepth 100000 in
theorem tb_465 : (Jvm.Cond.code ({ cls := "NameSeeker", name := "lay", desc := "()I" } : Jvm.MethodName) prog_1_method_5_code (1 : Nat) (Option.some Jvm.ClassFile.FieldType.int)) ∈ TB := tbI 465 rfl rfl
set_option maxRecDepth 100000 in
theorem tb_466 : (Jvm.Cond.methodLink "NameSeeker" (113 : Nat) ({ cls := "NameSeeker$Text", name := "hasName", desc := "()Z" } : Jvm.MethodName)) ∈ TB := tbI 466 rfl rfl
set_option maxRecDepth 100000 in
theorem tb_467 : (Jvm.Cond.instanceMethod ({ cls := "NameSeeker$Text", name := "hasName", desc := "()Z" } : Jvm.MethodName)) ∈ TB := tbI 467 rfl rfl
set_option maxRecDepth 100000 in
theorem tb_468 : (Jvm.Cond.selects "NameSeeker$Text" ({ cls := "NameSeeker$Text", name := "hasName", desc := "()Z" } : Jvm.MethodName) ({ cls := "NameSeeker$Text", name := "hasName", desc := "()Z" } : Jvm.MethodName)) ∈ TB := tbI 468 rfl rfl
set_option maxRecDepth 100000 in
theorem tb_469 : (Jvm.Cond.code ({ cls := "NameSeeker$Text", name := "hasName", desc := "()Z" } : Jvm.MethodName) prog_9_method_7_code (2 : Nat) (Option.some Jvm.ClassFile.FieldType.boolean)) ∈ TB := tbI 469 rfl rfl
set_option maxRecDepth 100000 in
theorem tb_470 : (Jvm.Cond.methodLink "NameSeekerLaw" (31 : Nat) ({ cls := "NameSeeker", name := "name", desc := "(II)I" } : Jvm.MethodName)) ∈ TB := tbI 470 rfl rfl
set_option maxRecDepth 100000 in
theorem tb_471 : (Jvm.Cond.instanceMethod ({ cls := "NameSeeker", name := "name", desc := "(II)I" } : Jvm.MethodName)) ∈ TB := tbI 471 rfl rfl
set_option maxRecDepth 100000 in
theorem tb_472 : (Jvm.Cond.selects "NameSeeker" ({ cls := "NameSeeker", name := "name", desc := "(II)I" } : Jvm.MethodName) ({ cls := "NameSeeker", name := "name", desc := "(II)I" } : Jvm.MethodName)) ∈ TB := tbI 472 rfl rfl
set_option maxRecDepth 100000 in
theorem tb_473 : (Jvm.Cond.code ({ cls := "NameSeeker", name := "name", desc := "(II)I" } : Jvm.MethodName) prog_1_method_6_code (4 : Nat) (Option.some Jvm.ClassFile.FieldType.int)) ∈ TB := tbI 473 rfl rfl
set_option maxRecDepth 100000 in
theorem tb_474 : (Jvm.Cond.methodLink "NameSeeker" (118 : Nat) ({ cls := "NameSeeker$Lot", name := "has", desc := "(I)Z" } : Jvm.MethodName)) ∈ TB := tbI 474 rfl rfl
set_option maxRecDepth 100000 in
theorem tb_475 : (Jvm.Cond.instanceMethod ({ cls := "NameSeeker$Lot", name := "has", desc := "(I)Z" } : Jvm.MethodName)) ∈ TB := tbI 475 rfl rfl
set_option maxRecDepth 100000 in
theorem tb_476 : (Jvm.Cond.selects "NameSeeker$Lot" ({ cls := "NameSeeker$Lot", name := "has", desc := "(I)Z" } : Jvm.MethodName) ({ cls := "NameSeeker$Lot", name := "has", desc := "(I)Z" } : Jvm.MethodName)) ∈ TB := tbI 476 rfl rfl
set_option maxRecDepth 100000 in
theorem tb_477 : (Jvm.Cond.code ({ cls := "NameSeeker$Lot", name := "has", desc := "(I)Z" } : Jvm.MethodName) prog_5_method_2_code (2 : Nat) (Option.some Jvm.ClassFile.FieldType.boolean)) ∈ TB := tbI 477 rfl rfl
set_option maxRecDepth 100000 in
theorem tb_478 : (Jvm.Cond.methodLink "NameSeekerLaw" (36 : Nat) ({ cls := "NameSeeker", name := "sign", desc := "(II)I" } : Jvm.MethodName)) ∈ TB := tbI 478 rfl rfl
set_option maxRecDepth 100000 in
theorem tb_479 : (Jvm.Cond.instanceMethod ({ cls := "NameSeeker", name := "sign", desc := "(II)I" } : Jvm.MethodName)) ∈ TB := tbI 479 rfl rfl
set_option maxRecDepth 100000 in
theorem tb_480 : (Jvm.Cond.selects "NameSeeker" ({ cls := "NameSeeker", name := "sign", desc := "(II)I" } : Jvm.MethodName) ({ cls := "NameSeeker", name := "sign", desc := "(II)I" } : Jvm.MethodName)) ∈ TB := tbI 480 rfl rfl
set_option maxRecDepth 100000 in
theorem tb_481 : (Jvm.Cond.code ({ cls := "NameSeeker", name := "sign", desc := "(II)I" } : Jvm.MethodName) prog_1_method_7_code (4 : Nat) (Option.some Jvm.ClassFile.FieldType.int)) ∈ TB := tbI 481 rfl rfl
set_option maxRecDepth 100000 in
theorem tb_482 : (Jvm.Cond.methodLink "NameSeekerLaw" (40 : Nat) ({ cls := "NameSeeker", name := "type", desc := "(I)I" } : Jvm.MethodName)) ∈ TB := tbI 482 rfl rfl
set_option maxRecDepth 100000 in
theorem tb_483 : (Jvm.Cond.instanceMethod ({ cls := "NameSeeker", name := "type", desc := "(I)I" } : Jvm.MethodName)) ∈ TB := tbI 483 rfl rfl
set_option maxRecDepth 100000 in
theorem tb_484 : (Jvm.Cond.selects "NameSeeker" ({ cls := "NameSeeker", name := "type", desc := "(I)I" } : Jvm.MethodName) ({ cls := "NameSeeker", name := "type", desc := "(I)I" } : Jvm.MethodName)) ∈ TB := tbI 484 rfl rfl
set_option maxRecDepth 100000 in
theorem tb_485 : (Jvm.Cond.code ({ cls := "NameSeeker", name := "type", desc := "(I)I" } : Jvm.MethodName) prog_1_method_10_code (2 : Nat) (Option.some Jvm.ClassFile.FieldType.int)) ∈ TB := tbI 485 rfl rfl
set_option maxRecDepth 100000 in
theorem tb_486 : (Jvm.Cond.methodLink "NameSeeker" (183 : Nat) ({ cls := "NameSeeker$Word", name := "add", desc := "(C)V" } : Jvm.MethodName)) ∈ TB := tbI 486 rfl rfl
set_option maxRecDepth 100000 in
theorem tb_487 : (Jvm.Cond.instanceMethod ({ cls := "NameSeeker$Word", name := "add", desc := "(C)V" } : Jvm.MethodName)) ∈ TB := tbI 487 rfl rfl
set_option maxRecDepth 100000 in
theorem tb_488 : (Jvm.Cond.selects "NameSeeker$Word" ({ cls := "NameSeeker$Word", name := "add", desc := "(C)V" } : Jvm.MethodName) ({ cls := "NameSeeker$Word", name := "add", desc := "(C)V" } : Jvm.MethodName)) ∈ TB := tbI 488 rfl rfl
set_option maxRecDepth 100000 in
theorem tb_489 : (Jvm.Cond.code ({ cls := "NameSeeker$Word", name := "add", desc := "(C)V" } : Jvm.MethodName) prog_10_method_3_code (2 : Nat) (Option.none : Option Jvm.ClassFile.FieldType)) ∈ TB := tbI 489 rfl rfl
set_option maxRecDepth 100000 in
theorem tb_490 : (Jvm.Cond.methodLink "NameSeekerLaw" (44 : Nat) ({ cls := "NameSeeker", name := "untype", desc := "()I" } : Jvm.MethodName)) ∈ TB := tbI 490 rfl rfl
set_option maxRecDepth 100000 in
theorem tb_491 : (Jvm.Cond.instanceMethod ({ cls := "NameSeeker", name := "untype", desc := "()I" } : Jvm.MethodName)) ∈ TB := tbI 491 rfl rfl
set_option maxRecDepth 100000 in
theorem tb_492 : (Jvm.Cond.selects "NameSeeker" ({ cls := "NameSeeker", name := "untype", desc := "()I" } : Jvm.MethodName) ({ cls := "NameSeeker", name := "untype", desc := "()I" } : Jvm.MethodName)) ∈ TB := tbI 492 rfl rfl
set_option maxRecDepth 100000 in
theorem tb_493 : (Jvm.Cond.code ({ cls := "NameSeeker", name := "untype", desc := "()I" } : Jvm.MethodName) prog_1_method_11_code (1 : Nat) (Option.some Jvm.ClassFile.FieldType.int)) ∈ TB := tbI 493 rfl rfl
set_option maxRecDepth 100000 in
theorem tb_494 : (Jvm.Cond.methodLink "NameSeeker" (186 : Nat) ({ cls := "NameSeeker$Word", name := "removeLast", desc := "()I" } : Jvm.MethodName)) ∈ TB := tbI 494 rfl rfl
set_option maxRecDepth 100000 in
theorem tb_495 : (Jvm.Cond.instanceMethod ({ cls := "NameSeeker$Word", name := "removeLast", desc := "()I" } : Jvm.MethodName)) ∈ TB := tbI 495 rfl rfl
set_option maxRecDepth 100000 in
theorem tb_496 : (Jvm.Cond.selects "NameSeeker$Word" ({ cls := "NameSeeker$Word", name := "removeLast", desc := "()I" } : Jvm.MethodName) ({ cls := "NameSeeker$Word", name := "removeLast", desc := "()I" } : Jvm.MethodName)) ∈ TB := tbI 496 rfl rfl
set_option maxRecDepth 100000 in
theorem tb_497 : (Jvm.Cond.code ({ cls := "NameSeeker$Word", name := "removeLast", desc := "()I" } : Jvm.MethodName) prog_10_method_4_code (1 : Nat) (Option.some Jvm.ClassFile.FieldType.int)) ∈ TB := tbI 497 rfl rfl
set_option maxRecDepth 100000 in
theorem tb_498 : (Jvm.Cond.methodLink "NameSeekerLaw" (48 : Nat) ({ cls := "NameSeeker", name := "roll", desc := "()I" } : Jvm.MethodName)) ∈ TB := tbI 498 rfl rfl
set_option maxRecDepth 100000 in
theorem tb_499 : (Jvm.Cond.instanceMethod ({ cls := "NameSeeker", name := "roll", desc := "()I" } : Jvm.MethodName)) ∈ TB := tbI 499 rfl rfl
set_option maxRecDepth 100000 in
theorem tb_500 : (Jvm.Cond.selects "NameSeeker" ({ cls := "NameSeeker", name := "roll", desc := "()I" } : Jvm.MethodName) ({ cls := "NameSeeker", name := "roll", desc := "()I" } : Jvm.MethodName)) ∈ TB := tbI 500 rfl rfl
set_option maxRecDepth 100000 in
theorem tb_501 : (Jvm.Cond.code ({ cls := "NameSeeker", name := "roll", desc := "()I" } : Jvm.MethodName) prog_1_method_12_code (2 : Nat) (Option.some Jvm.ClassFile.FieldType.int)) ∈ TB := tbI 501 rfl rfl
set_option maxRecDepth 100000 in
theorem tb_503 : (Jvm.Cond.methodLink "NameSeekerLaw" (52 : Nat) ({ cls := "NameSeeker", name := "word", desc := "(I)I" } : Jvm.MethodName)) ∈ TB := tbI 503 rfl rfl
set_option maxRecDepth 100000 in
theorem tb_504 : (Jvm.Cond.instanceMethod ({ cls := "NameSeeker", name := "word", desc := "(I)I" } : Jvm.MethodName)) ∈ TB := tbI 504 rfl rfl
set_option maxRecDepth 100000 in
theorem tb_505 : (Jvm.Cond.selects "NameSeeker" ({ cls := "NameSeeker", name := "word", desc := "(I)I" } : Jvm.MethodName) ({ cls := "NameSeeker", name := "word", desc := "(I)I" } : Jvm.MethodName)) ∈ TB := tbI 505 rfl rfl
set_option maxRecDepth 100000 in
theorem tb_506 : (Jvm.Cond.code ({ cls := "NameSeeker", name := "word", desc := "(I)I" } : Jvm.MethodName) prog_1_method_13_code (2 : Nat) (Option.some Jvm.ClassFile.FieldType.int)) ∈ TB := tbI 506 rfl rfl
set_option maxRecDepth 100000 in
theorem tb_507 : (Jvm.Cond.methodLink "NameSeekerLaw" (56 : Nat) ({ cls := "NameSeeker", name := "pick", desc := "(I)I" } : Jvm.MethodName)) ∈ TB := tbI 507 rfl rfl
set_option maxRecDepth 100000 in
theorem tb_508 : (Jvm.Cond.instanceMethod ({ cls := "NameSeeker", name := "pick", desc := "(I)I" } : Jvm.MethodName)) ∈ TB := tbI 508 rfl rfl
set_option maxRecDepth 100000 in
theorem tb_509 : (Jvm.Cond.selects "NameSeeker" ({ cls := "NameSeeker", name := "pick", desc := "(I)I" } : Jvm.MethodName) ({ cls := "NameSeeker", name := "pick", desc := "(I)I" } : Jvm.MethodName)) ∈ TB := tbI 509 rfl rfl
set_option maxRecDepth 100000 in
theorem tb_510 : (Jvm.Cond.code ({ cls := "NameSeeker", name := "pick", desc := "(I)I" } : Jvm.MethodName) prog_1_method_14_code (2 : Nat) (Option.some Jvm.ClassFile.FieldType.int)) ∈ TB := tbI 510 rfl rfl
set_option maxRecDepth 100000 in
theorem tb_511 : (Jvm.Cond.methodLink "NameSeekerLaw" (60 : Nat) ({ cls := "NameSeeker", name := "forget", desc := "(I)I" } : Jvm.MethodName)) ∈ TB := tbI 511 rfl rfl
set_option maxRecDepth 100000 in
theorem tb_512 : (Jvm.Cond.instanceMethod ({ cls := "NameSeeker", name := "forget", desc := "(I)I" } : Jvm.MethodName)) ∈ TB := tbI 512 rfl rfl
set_option maxRecDepth 100000 in
theorem tb_513 : (Jvm.Cond.selects "NameSeeker" ({ cls := "NameSeeker", name := "forget", desc := "(I)I" } : Jvm.MethodName) ({ cls := "NameSeeker", name := "forget", desc := "(I)I" } : Jvm.MethodName)) ∈ TB := tbI 513 rfl rfl
set_option maxRecDepth 100000 in
theorem tb_514 : (Jvm.Cond.code ({ cls := "NameSeeker", name := "forget", desc := "(I)I" } : Jvm.MethodName) prog_1_method_15_code (3 : Nat) (Option.some Jvm.ClassFile.FieldType.int)) ∈ TB := tbI 514 rfl rfl
set_option maxRecDepth 100000 in
theorem tb_515 : (Jvm.Cond.methodLink "NameSeekerLaw" (64 : Nat) ({ cls := "NameSeeker", name := "drop", desc := "(I)I" } : Jvm.MethodName)) ∈ TB := tbI 515 rfl rfl
set_option maxRecDepth 100000 in
theorem tb_516 : (Jvm.Cond.instanceMethod ({ cls := "NameSeeker", name := "drop", desc := "(I)I" } : Jvm.MethodName)) ∈ TB := tbI 516 rfl rfl
set_option maxRecDepth 100000 in
theorem tb_517 : (Jvm.Cond.selects "NameSeeker" ({ cls := "NameSeeker", name := "drop", desc := "(I)I" } : Jvm.MethodName) ({ cls := "NameSeeker", name := "drop", desc := "(I)I" } : Jvm.MethodName)) ∈ TB := tbI 517 rfl rfl
set_option maxRecDepth 100000 in
theorem tb_518 : (Jvm.Cond.code ({ cls := "NameSeeker", name := "drop", desc := "(I)I" } : Jvm.MethodName) prog_1_method_16_code (2 : Nat) (Option.some Jvm.ClassFile.FieldType.int)) ∈ TB := tbI 518 rfl rfl
set_option maxRecDepth 100000 in
theorem tb_519 : (Jvm.Cond.methodLink "NameSeeker" (193 : Nat) ({ cls := "NameSeeker$Lot", name := "remove", desc := "(I)V" } : Jvm.MethodName)) ∈ TB := tbI 519 rfl rfl
set_option maxRecDepth 100000 in
theorem tb_520 : (Jvm.Cond.instanceMethod ({ cls := "NameSeeker$Lot", name := "remove", desc := "(I)V" } : Jvm.MethodName)) ∈ TB := tbI 520 rfl rfl
set_option maxRecDepth 100000 in
theorem tb_521 : (Jvm.Cond.selects "NameSeeker$Lot" ({ cls := "NameSeeker$Lot", name := "remove", desc := "(I)V" } : Jvm.MethodName) ({ cls := "NameSeeker$Lot", name := "remove", desc := "(I)V" } : Jvm.MethodName)) ∈ TB := tbI 521 rfl rfl
set_option maxRecDepth 100000 in
theorem tb_522 : (Jvm.Cond.code ({ cls := "NameSeeker$Lot", name := "remove", desc := "(I)V" } : Jvm.MethodName) prog_5_method_5_code (4 : Nat) (Option.none : Option Jvm.ClassFile.FieldType)) ∈ TB := tbI 522 rfl rfl
set_option maxRecDepth 100000 in
theorem tb_523 : (Jvm.Cond.methodLink "NameSeekerLaw" (68 : Nat) ({ cls := "NameSeeker", name := "rename", desc := "(II)I" } : Jvm.MethodName)) ∈ TB := tbI 523 rfl rfl
set_option maxRecDepth 100000 in
theorem tb_524 : (Jvm.Cond.instanceMethod ({ cls := "NameSeeker", name := "rename", desc := "(II)I" } : Jvm.MethodName)) ∈ TB := tbI 524 rfl rfl
set_option maxRecDepth 100000 in
theorem tb_525 : (Jvm.Cond.selects "NameSeeker" ({ cls := "NameSeeker", name := "rename", desc := "(II)I" } : Jvm.MethodName) ({ cls := "NameSeeker", name := "rename", desc := "(II)I" } : Jvm.MethodName)) ∈ TB := tbI 525 rfl rfl
set_option maxRecDepth 100000 in
theorem tb_526 : (Jvm.Cond.code ({ cls := "NameSeeker", name := "rename", desc := "(II)I" } : Jvm.MethodName) prog_1_method_17_code (4 : Nat) (Option.some Jvm.ClassFile.FieldType.int)) ∈ TB := tbI 526 rfl rfl
set_option maxRecDepth 100000 in
theorem tb_527 : (Jvm.Cond.methodLink "NameSeekerLaw" (72 : Nat) ({ cls := "NameSeeker", name := "worth", desc := "(III)I" } : Jvm.MethodName)) ∈ TB := tbI 527 rfl rfl
set_option maxRecDepth 100000 in
theorem tb_528 : (Jvm.Cond.instanceMethod ({ cls := "NameSeeker", name := "worth", desc := "(III)I" } : Jvm.MethodName)) ∈ TB := tbI 528 rfl rfl
set_option maxRecDepth 100000 in
theorem tb_529 : (Jvm.Cond.selects "NameSeeker" ({ cls := "NameSeeker", name := "worth", desc := "(III)I" } : Jvm.MethodName) ({ cls := "NameSeeker", name := "worth", desc := "(III)I" } : Jvm.MethodName)) ∈ TB := tbI 529 rfl rfl
set_option maxRecDepth 100000 in
theorem tb_530 : (Jvm.Cond.code ({ cls := "NameSeeker", name := "worth", desc := "(III)I" } : Jvm.MethodName) prog_1_method_18_code (4 : Nat) (Option.some Jvm.ClassFile.FieldType.int)) ∈ TB := tbI 530 rfl rfl
set_option maxRecDepth 100000 in
theorem tb_531 : (Jvm.Cond.methodLink "NameSeeker" (196 : Nat) ({ cls := "NameSeeker$Scales", name := "mayBe", desc := "(I)Z" } : Jvm.MethodName)) ∈ TB := tbI 531 rfl rfl
set_option maxRecDepth 100000 in
theorem tb_532 : (Jvm.Cond.static ({ cls := "NameSeeker$Scales", name := "mayBe", desc := "(I)Z" } : Jvm.MethodName)) ∈ TB := tbI 532 rfl rfl
set_option maxRecDepth 100000 in
theorem tb_533 : (Jvm.Cond.code ({ cls := "NameSeeker$Scales", name := "mayBe", desc := "(I)Z" } : Jvm.MethodName) prog_8_method_2_code (1 : Nat) (Option.some Jvm.ClassFile.FieldType.boolean)) ∈ TB := tbI 533 rfl rfl
set_option maxRecDepth 100000 in
theorem tb_534 : (Jvm.Cond.methodLink "NameSeeker" (199 : Nat) ({ cls := "NameSeeker$Scales", name := "are", desc := "(III)Z" } : Jvm.MethodName)) ∈ TB := tbI 534 rfl rfl
set_option maxRecDepth 100000 in
theorem tb_535 : (Jvm.Cond.instanceMethod ({ cls := "NameSeeker$Scales", name := "are", desc := "(III)Z" } : Jvm.MethodName)) ∈ TB := tbI 535 rfl rfl
set_option maxRecDepth 100000 in
theorem tb_536 : (Jvm.Cond.selects "NameSeeker$Scales" ({ cls := "NameSeeker$Scales", name := "are", desc := "(III)Z" } : Jvm.MethodName) ({ cls := "NameSeeker$Scales", name := "are", desc := "(III)Z" } : Jvm.MethodName)) ∈ TB := tbI 536 rfl rfl
set_option maxRecDepth 100000 in
theorem tb_537 : (Jvm.Cond.code ({ cls := "NameSeeker$Scales", name := "are", desc := "(III)Z" } : Jvm.MethodName) prog_8_method_5_code (4 : Nat) (Option.some Jvm.ClassFile.FieldType.boolean)) ∈ TB := tbI 537 rfl rfl
set_option maxRecDepth 100000 in
theorem tb_538 : (Jvm.Cond.methodLink "NameSeekerLaw" (77 : Nat) ({ cls := "NameSeeker", name := "score", desc := "(I)I" } : Jvm.MethodName)) ∈ TB := tbI 538 rfl rfl
set_option maxRecDepth 100000 in
theorem tb_539 : (Jvm.Cond.instanceMethod ({ cls := "NameSeeker", name := "score", desc := "(I)I" } : Jvm.MethodName)) ∈ TB := tbI 539 rfl rfl
set_option maxRecDepth 100000 in
theorem tb_540 : (Jvm.Cond.selects "NameSeeker" ({ cls := "NameSeeker", name := "score", desc := "(I)I" } : Jvm.MethodName) ({ cls := "NameSeeker", name := "score", desc := "(I)I" } : Jvm.MethodName)) ∈ TB := tbI 540 rfl rfl
set_option maxRecDepth 100000 in
theorem tb_541 : (Jvm.Cond.code ({ cls := "NameSeeker", name := "score", desc := "(I)I" } : Jvm.MethodName) prog_1_method_19_code (2 : Nat) (Option.some Jvm.ClassFile.FieldType.int)) ∈ TB := tbI 541 rfl rfl
set_option maxRecDepth 100000 in
theorem tb_542 : (Jvm.Cond.methodLink "NameSeeker" (203 : Nat) ({ cls := "NameSeeker", name := "seekScore", desc := "(LNameSeeker$Name;)I" } : Jvm.MethodName)) ∈ TB := tbI 542 rfl rfl
set_option maxRecDepth 100000 in
theorem tb_544 : (Jvm.Cond.instanceMethod ({ cls := "NameSeeker", name := "seekScore", desc := "(LNameSeeker$Name;)I" } : Jvm.MethodName)) ∈ TB := tbI 544 rfl rfl
set_option maxRecDepth 100000 in
theorem tb_545 : (Jvm.Cond.code ({ cls := "NameSeeker", name := "seekScore", desc := "(LNameSeeker$Name;)I" } : Jvm.MethodName) prog_1_method_27_code (6 : Nat) (Option.some Jvm.ClassFile.FieldType.int)) ∈ TB := tbI 545 rfl rfl
set_option maxRecDepth 100000 in
theorem tb_546 : (Jvm.Cond.methodLink "NameSeeker" (214 : Nat) ({ cls := "NameSeeker$Word", name := "code", desc := "()J" } : Jvm.MethodName)) ∈ TB := tbI 546 rfl rfl
set_option maxRecDepth 100000 in
theorem tb_547 : (Jvm.Cond.instanceMethod ({ cls := "NameSeeker$Word", name := "code", desc := "()J" } : Jvm.MethodName)) ∈ TB := tbI 547 rfl rfl
set_option maxRecDepth 100000 in
theorem tb_548 : (Jvm.Cond.selects "NameSeeker$Word" ({ cls := "NameSeeker$Word", name := "code", desc := "()J" } : Jvm.MethodName) ({ cls := "NameSeeker$Word", name := "code", desc := "()J" } : Jvm.MethodName)) ∈ TB := tbI 548 rfl rfl
set_option maxRecDepth 100000 in
theorem tb_549 : (Jvm.Cond.code ({ cls := "NameSeeker$Word", name := "code", desc := "()J" } : Jvm.MethodName) prog_10_method_6_code (5 : Nat) (Option.some Jvm.ClassFile.FieldType.long)) ∈ TB := tbI 549 rfl rfl
set_option maxRecDepth 100000 in
theorem tb_551 : (Jvm.Cond.constantLong "NameSeeker$Word" (23 : Nat) (53 : Int64)) ∈ TB := tbI 551 rfl rfl
set_option maxRecDepth 100000 in
theorem tb_553 : (Jvm.Cond.methodLink "NameSeeker" (259 : Nat) ({ cls := "NameSeeker$Known", name := "placeOf", desc := "(IJI)I" } : Jvm.MethodName)) ∈ TB := tbI 553 rfl rfl
set_option maxRecDepth 100000 in
theorem tb_554 : (Jvm.Cond.static ({ cls := "NameSeeker$Known", name := "placeOf", desc := "(IJI)I" } : Jvm.MethodName)) ∈ TB := tbI 554 rfl rfl
set_option maxRecDepth 100000 in
theorem tb_555 : (Jvm.Cond.code ({ cls := "NameSeeker$Known", name := "placeOf", desc := "(IJI)I" } : Jvm.MethodName) prog_3_method_2_code (4 : Nat) (Option.some Jvm.ClassFile.FieldType.int)) ∈ TB := tbI 555 rfl rfl
set_option maxRecDepth 100000 in
theorem tb_556 : (Jvm.Cond.constantLong "NameSeeker$Known" (32 : Nat) (31 : Int64)) ∈ TB := tbI 556 rfl rfl
set_option maxRecDepth 100000 in
theorem tb_557 : (Jvm.Cond.constantLong "NameSeeker$Known" (34 : Nat) (7 : Int64)) ∈ TB := tbI 557 rfl rfl
set_option maxRecDepth 100000 in
theorem tb_558 : (Jvm.Cond.methodLink "NameSeeker" (263 : Nat) ({ cls := "NameSeeker$Known", name := "holds", desc := "(IIJI)Z" } : Jvm.MethodName)) ∈ TB := tbI 558 rfl rfl
set_option maxRecDepth 100000 in
theorem tb_559 : (Jvm.Cond.instanceMethod ({ cls := "NameSeeker$Known", name := "holds", desc := "(IIJI)Z" } : Jvm.MethodName)) ∈ TB := tbI 559 rfl rfl
set_option maxRecDepth 100000 in
theorem tb_560 : (Jvm.Cond.selects "NameSeeker$Known" ({ cls := "NameSeeker$Known", name := "holds", desc := "(IIJI)Z" } : Jvm.MethodName) ({ cls := "NameSeeker$Known", name := "holds", desc := "(IIJI)Z" } : Jvm.MethodName)) ∈ TB := tbI 560 rfl rfl
set_option maxRecDepth 100000 in
theorem tb_561 : (Jvm.Cond.code ({ cls := "NameSeeker$Known", name := "holds", desc := "(IIJI)Z" } : Jvm.MethodName) prog_3_method_3_code (6 : Nat) (Option.some Jvm.ClassFile.FieldType.boolean)) ∈ TB := tbI 561 rfl rfl
set_option maxRecDepth 100000 in
theorem tb_562 : (Jvm.Cond.methodLink "NameSeeker" (226 : Nat) ({ cls := "NameSeeker$Laying", name := "workOut", desc := "(LNameSeeker$Name;LNameSeeker$Word;LNameSeeker$Scales;)I" } : Jvm.MethodName)) ∈ TB := tbI 562 rfl rfl
set_option maxRecDepth 100000 in
theorem tb_563 : (Jvm.Cond.instanceMethod ({ cls := "NameSeeker$Laying", name := "workOut", desc := "(LNameSeeker$Name;LNameSeeker$Word;LNameSeeker$Scales;)I" } : Jvm.MethodName)) ∈ TB := tbI 563 rfl rfl
set_option maxRecDepth 100000 in
theorem tb_564 : (Jvm.Cond.selects "NameSeeker$Laying" ({ cls := "NameSeeker$Laying", name := "workOut", desc := "(LNameSeeker$Name;LNameSeeker$Word;LNameSeeker$Scales;)I" } : Jvm.MethodName) ({ cls := "NameSeeker$Laying", name := "workOut", desc := "(LNameSeeker$Name;LNameSeeker$Word;LNameSeeker$Scales;)I" } : Jvm.MethodName)) ∈ TB := tbI 564 rfl rfl
set_option maxRecDepth 100000 in
theorem tb_565 : (Jvm.Cond.code ({ cls := "NameSeeker$Laying", name := "workOut", desc := "(LNameSeeker$Name;LNameSeeker$Word;LNameSeeker$Scales;)I" } : Jvm.MethodName) prog_4_method_2_code (6 : Nat) (Option.some Jvm.ClassFile.FieldType.int)) ∈ TB := tbI 565 rfl rfl
set_option maxRecDepth 100000 in
theorem tb_566 : (Jvm.Cond.methodLink "NameSeeker$Laying" (32 : Nat) ({ cls := "NameSeeker$Laying", name := "workOutLetter", desc := "(LNameSeeker$Name;LNameSeeker$Word;ILNameSeeker$Scales;)V" } : Jvm.MethodName)) ∈ TB := tbI 566 rfl rfl
set_option maxRecDepth 100000 in
theorem tb_568 : (Jvm.Cond.instanceMethod ({ cls := "NameSeeker$Laying", name := "workOutLetter", desc := "(LNameSeeker$Name;LNameSeeker$Word;ILNameSeeker$Scales;)V" } : Jvm.MethodName)) ∈ TB := tbI 568 rfl rfl
set_option maxRecDepth 100000 in
theorem tb_569 : (Jvm.Cond.code ({ cls := "NameSeeker$Laying", name := "workOutLetter", desc := "(LNameSeeker$Name;LNameSeeker$Word;ILNameSeeker$Scales;)V" } : Jvm.MethodName) prog_4_method_3_code (6 : Nat) (Option.none : Option Jvm.ClassFile.FieldType)) ∈ TB := tbI 569 rfl rfl
set_option maxRecDepth 100000 in
theorem tb_570 : (Jvm.Cond.methodLink "NameSeeker$Laying" (43 : Nat) ({ cls := "NameSeeker$Name", name := "isAlike", desc := "(IC)Z" } : Jvm.MethodName)) ∈ TB := tbI 570 rfl rfl
set_option maxRecDepth 100000 in
theorem tb_571 : (Jvm.Cond.instanceMethod ({ cls := "NameSeeker$Name", name := "isAlike", desc := "(IC)Z" } : Jvm.MethodName)) ∈ TB := tbI 571 rfl rfl
set_option maxRecDepth 100000 in
theorem tb_572 : (Jvm.Cond.selects "NameSeeker$Name" ({ cls := "NameSeeker$Name", name := "isAlike", desc := "(IC)Z" } : Jvm.MethodName) ({ cls := "NameSeeker$Name", name := "isAlike", desc := "(IC)Z" } : Jvm.MethodName)) ∈ TB := tbI 572 rfl rfl
set_option maxRecDepth 100000 in
theorem tb_573 : (Jvm.Cond.code ({ cls := "NameSeeker$Name", name := "isAlike", desc := "(IC)Z" } : Jvm.MethodName) prog_6_method_5_code (4 : Nat) (Option.some Jvm.ClassFile.FieldType.boolean)) ∈ TB := tbI 573 rfl rfl
set_option maxRecDepth 100000 in
theorem tb_574 : (Jvm.Cond.methodLink "NameSeeker$Laying" (47 : Nat) ({ cls := "NameSeeker$Scales", name := "ofPlace", desc := "(LNameSeeker$Name;I)I" } : Jvm.MethodName)) ∈ TB := tbI 574 rfl rfl
set_option maxRecDepth 100000 in
theorem tb_575 : (Jvm.Cond.instanceMethod ({ cls := "NameSeeker$Scales", name := "ofPlace", desc := "(LNameSeeker$Name;I)I" } : Jvm.MethodName)) ∈ TB := tbI 575 rfl rfl
set_option maxRecDepth 100000 in
theorem tb_576 : (Jvm.Cond.selects "NameSeeker$Scales" ({ cls := "NameSeeker$Scales", name := "ofPlace", desc := "(LNameSeeker$Name;I)I" } : Jvm.MethodName) ({ cls := "NameSeeker$Scales", name := "ofPlace", desc := "(LNameSeeker$Name;I)I" } : Jvm.MethodName)) ∈ TB := tbI 576 rfl rfl
set_option maxRecDepth 100000 in
theorem tb_577 : (Jvm.Cond.code ({ cls := "NameSeeker$Scales", name := "ofPlace", desc := "(LNameSeeker$Name;I)I" } : Jvm.MethodName) prog_8_method_6_code (4 : Nat) (Option.some Jvm.ClassFile.FieldType.int)) ∈ TB := tbI 577 rfl rfl
set_option maxRecDepth 100000 in
theorem tb_578 : (Jvm.Cond.methodLink "NameSeeker$Laying" (53 : Nat) ({ cls := "NameSeeker$Laying", name := "workOutNext", desc := "(LNameSeeker$Name;IILNameSeeker$Scales;)V" } : Jvm.MethodName)) ∈ TB := tbI 578 rfl rfl
set_option maxRecDepth 100000 in
theorem tb_580 : (Jvm.Cond.instanceMethod ({ cls := "NameSeeker$Laying", name := "workOutNext", desc := "(LNameSeeker$Name;IILNameSeeker$Scales;)V" } : Jvm.MethodName)) ∈ TB := tbI 580 rfl rfl
set_option maxRecDepth 100000 in
theorem tb_581 : (Jvm.Cond.code ({ cls := "NameSeeker$Laying", name := "workOutNext", desc := "(LNameSeeker$Name;IILNameSeeker$Scales;)V" } : Jvm.MethodName) prog_4_method_4_code (9 : Nat) (Option.none : Option Jvm.ClassFile.FieldType)) ∈ TB := tbI 581 rfl rfl
set_option maxRecDepth 100000 in
theorem tb_582 : (Jvm.Cond.methodLink "NameSeeker$Laying" (57 : Nat) ({ cls := "NameSeeker$Scales", name := "ofStep", desc := "(LNameSeeker$Name;II)I" } : Jvm.MethodName)) ∈ TB := tbI 582 rfl rfl
set_option maxRecDepth 100000 in
theorem tb_583 : (Jvm.Cond.instanceMethod ({ cls := "NameSeeker$Scales", name := "ofStep", desc := "(LNameSeeker$Name;II)I" } : Jvm.MethodName)) ∈ TB := tbI 583 rfl rfl
set_option maxRecDepth 100000 in
theorem tb_584 : (Jvm.Cond.selects "NameSeeker$Scales" ({ cls := "NameSeeker$Scales", name := "ofStep", desc := "(LNameSeeker$Name;II)I" } : Jvm.MethodName) ({ cls := "NameSeeker$Scales", name := "ofStep", desc := "(LNameSeeker$Name;II)I" } : Jvm.MethodName)) ∈ TB := tbI 584 rfl rfl
set_option maxRecDepth 100000 in
theorem tb_585 : (Jvm.Cond.code ({ cls := "NameSeeker$Scales", name := "ofStep", desc := "(LNameSeeker$Name;II)I" } : Jvm.MethodName) prog_8_method_7_code (4 : Nat) (Option.some Jvm.ClassFile.FieldType.int)) ∈ TB := tbI 585 rfl rfl
set_option maxRecDepth 100000 in
theorem tb_586 : (Jvm.Cond.methodLink "NameSeeker" (276 : Nat) ({ cls := "NameSeeker$Known", name := "put", desc := "(IIJII)V" } : Jvm.MethodName)) ∈ TB := tbI 586 rfl rfl
set_option maxRecDepth 100000 in
theorem tb_587 : (Jvm.Cond.instanceMethod ({ cls := "NameSeeker$Known", name := "put", desc := "(IIJII)V" } : Jvm.MethodName)) ∈ TB := tbI 587 rfl rfl
set_option maxRecDepth 100000 in
theorem tb_588 : (Jvm.Cond.selects "NameSeeker$Known" ({ cls := "NameSeeker$Known", name := "put", desc := "(IIJII)V" } : Jvm.MethodName) ({ cls := "NameSeeker$Known", name := "put", desc := "(IIJII)V" } : Jvm.MethodName)) ∈ TB := tbI 588 rfl rfl
set_option maxRecDepth 100000 in
theorem tb_589 : (Jvm.Cond.code ({ cls := "NameSeeker$Known", name := "put", desc := "(IIJII)V" } : Jvm.MethodName) prog_3_method_4_code (7 : Nat) (Option.none : Option Jvm.ClassFile.FieldType)) ∈ TB := tbI 589 rfl rfl
set_option maxRecDepth 100000 in
theorem tb_590 : (Jvm.Cond.methodLink "NameSeekerLaw" (81 : Nat) ({ cls := "NameSeeker", name := "list", desc := "(I)I" } : Jvm.MethodName)) ∈ TB := tbI 590 rfl rfl
set_option maxRecDepth 100000 in
theorem tb_591 : (Jvm.Cond.instanceMethod ({ cls := "NameSeeker", name := "list", desc := "(I)I" } : Jvm.MethodName)) ∈ TB := tbI 591 rfl rfl
set_option maxRecDepth 100000 in
theorem tb_592 : (Jvm.Cond.selects "NameSeeker" ({ cls := "NameSeeker", name := "list", desc := "(I)I" } : Jvm.MethodName) ({ cls := "NameSeeker", name := "list", desc := "(I)I" } : Jvm.MethodName)) ∈ TB := tbI 592 rfl rfl
set_option maxRecDepth 100000 in
theorem tb_593 : (Jvm.Cond.code ({ cls := "NameSeeker", name := "list", desc := "(I)I" } : Jvm.MethodName) prog_1_method_20_code (2 : Nat) (Option.some Jvm.ClassFile.FieldType.int)) ∈ TB := tbI 593 rfl rfl
set_option maxRecDepth 100000 in
theorem tb_594 : (Jvm.Cond.methodLink "NameSeeker" (207 : Nat) ({ cls := "NameSeeker", name := "seekScores", desc := "()V" } : Jvm.MethodName)) ∈ TB := tbI 594 rfl rfl
set_option maxRecDepth 100000 in
theorem tb_596 : (Jvm.Cond.instanceMethod ({ cls := "NameSeeker", name := "seekScores", desc := "()V" } : Jvm.MethodName)) ∈ TB := tbI 596 rfl rfl
set_option maxRecDepth 100000 in
theorem tb_597 : (Jvm.Cond.code ({ cls := "NameSeeker", name := "seekScores", desc := "()V" } : Jvm.MethodName) prog_1_method_28_code (2 : Nat) (Option.none : Option Jvm.ClassFile.FieldType)) ∈ TB := tbI 597 rfl rfl
set_option maxRecDepth 100000 in
theorem tb_598 : (Jvm.Cond.methodLink "NameSeeker" (237 : Nat) ({ cls := "NameSeeker$Name", name := "hasAll", desc := "(LNameSeeker$Word;)Z" } : Jvm.MethodName)) ∈ TB := tbI 598 rfl rfl
set_option maxRecDepth 100000 in
theorem tb_599 : (Jvm.Cond.instanceMethod ({ cls := "NameSeeker$Name", name := "hasAll", desc := "(LNameSeeker$Word;)Z" } : Jvm.MethodName)) ∈ TB := tbI 599 rfl rfl
set_option maxRecDepth 100000 in
theorem tb_600 : (Jvm.Cond.selects "NameSeeker$Name" ({ cls := "NameSeeker$Name", name := "hasAll", desc := "(LNameSeeker$Word;)Z" } : Jvm.MethodName) ({ cls := "NameSeeker$Name", name := "hasAll", desc := "(LNameSeeker$Word;)Z" } : Jvm.MethodName)) ∈ TB := tbI 600 rfl rfl
set_option maxRecDepth 100000 in
theorem tb_601 : (Jvm.Cond.code ({ cls := "NameSeeker$Name", name := "hasAll", desc := "(LNameSeeker$Word;)Z" } : Jvm.MethodName) prog_6_method_6_code (2 : Nat) (Option.some Jvm.ClassFile.FieldType.boolean)) ∈ TB := tbI 601 rfl rfl
set_option maxRecDepth 100000 in
theorem tb_602 : (Jvm.Cond.methodLink "NameSeeker$Name" (52 : Nat) ({ cls := "NameSeeker$Word", name := "letterBits", desc := "()I" } : Jvm.MethodName)) ∈ TB := tbI 602 rfl rfl
set_option maxRecDepth 100000 in
theorem tb_603 : (Jvm.Cond.instanceMethod ({ cls := "NameSeeker$Word", name := "letterBits", desc := "()I" } : Jvm.MethodName)) ∈ TB := tbI 603 rfl rfl
set_option maxRecDepth 100000 in
theorem tb_604 : (Jvm.Cond.selects "NameSeeker$Word" ({ cls := "NameSeeker$Word", name := "letterBits", desc := "()I" } : Jvm.MethodName) ({ cls := "NameSeeker$Word", name := "letterBits", desc := "()I" } : Jvm.MethodName)) ∈ TB := tbI 604 rfl rfl
set_option maxRecDepth 100000 in
theorem tb_605 : (Jvm.Cond.code ({ cls := "NameSeeker$Word", name := "letterBits", desc := "()I" } : Jvm.MethodName) prog_10_method_7_code (3 : Nat) (Option.some Jvm.ClassFile.FieldType.int)) ∈ TB := tbI 605 rfl rfl
set_option maxRecDepth 100000 in
theorem tb_606 : (Jvm.Cond.methodLink "NameSeeker" (210 : Nat) ({ cls := "NameSeeker$Ranking", name := "rank", desc := "(LNameSeeker$Lot;)V" } : Jvm.MethodName)) ∈ TB := tbI 606 rfl rfl
set_option maxRecDepth 100000 in
theorem tb_607 : (Jvm.Cond.instanceMethod ({ cls := "NameSeeker$Ranking", name := "rank", desc := "(LNameSeeker$Lot;)V" } : Jvm.MethodName)) ∈ TB := tbI 607 rfl rfl
set_option maxRecDepth 100000 in
theorem tb_608 : (Jvm.Cond.selects "NameSeeker$Ranking" ({ cls := "NameSeeker$Ranking", name := "rank", desc := "(LNameSeeker$Lot;)V" } : Jvm.MethodName) ({ cls := "NameSeeker$Ranking", name := "rank", desc := "(LNameSeeker$Lot;)V" } : Jvm.MethodName)) ∈ TB := tbI 608 rfl rfl
set_option maxRecDepth 100000 in
theorem tb_609 : (Jvm.Cond.code ({ cls := "NameSeeker$Ranking", name := "rank", desc := "(LNameSeeker$Lot;)V" } : Jvm.MethodName) prog_7_method_2_code (3 : Nat) (Option.none : Option Jvm.ClassFile.FieldType)) ∈ TB := tbI 609 rfl rfl
set_option maxRecDepth 100000 in
theorem tb_610 : (Jvm.Cond.methodLink "NameSeeker$Ranking" (25 : Nat) ({ cls := "NameSeeker$Ranking", name := "insert", desc := "(LNameSeeker$Lot;I)V" } : Jvm.MethodName)) ∈ TB := tbI 610 rfl rfl
set_option maxRecDepth 100000 in
theorem tb_612 : (Jvm.Cond.instanceMethod ({ cls := "NameSeeker$Ranking", name := "insert", desc := "(LNameSeeker$Lot;I)V" } : Jvm.MethodName)) ∈ TB := tbI 612 rfl rfl
set_option maxRecDepth 100000 in
theorem tb_613 : (Jvm.Cond.code ({ cls := "NameSeeker$Ranking", name := "insert", desc := "(LNameSeeker$Lot;I)V" } : Jvm.MethodName) prog_7_method_3_code (4 : Nat) (Option.none : Option Jvm.ClassFile.FieldType)) ∈ TB := tbI 613 rfl rfl
set_option maxRecDepth 100000 in
theorem tb_614 : (Jvm.Cond.methodLink "NameSeeker$Ranking" (29 : Nat) ({ cls := "NameSeeker$Ranking", name := "isAhead", desc := "(LNameSeeker$Lot;II)Z" } : Jvm.MethodName)) ∈ TB := tbI 614 rfl rfl
set_option maxRecDepth 100000 in
theorem tb_616 : (Jvm.Cond.instanceMethod ({ cls := "NameSeeker$Ranking", name := "isAhead", desc := "(LNameSeeker$Lot;II)Z" } : Jvm.MethodName)) ∈ TB := tbI 616 rfl rfl
set_option maxRecDepth 100000 in
theorem tb_617 : (Jvm.Cond.code ({ cls := "NameSeeker$Ranking", name := "isAhead", desc := "(LNameSeeker$Lot;II)Z" } : Jvm.MethodName) prog_7_method_5_code (6 : Nat) (Option.some Jvm.ClassFile.FieldType.boolean)) ∈ TB := tbI 617 rfl rfl
set_option maxRecDepth 100000 in
theorem tb_618 : (Jvm.Cond.methodLink "NameSeeker" (218 : Nat) ({ cls := "NameSeeker$Asked", name := "add", desc := "(J)V" } : Jvm.MethodName)) ∈ TB := tbI 618 rfl rfl
set_option maxRecDepth 100000 in
theorem tb_619 : (Jvm.Cond.instanceMethod ({ cls := "NameSeeker$Asked", name := "add", desc := "(J)V" } : Jvm.MethodName)) ∈ TB := tbI 619 rfl rfl
set_option maxRecDepth 100000 in
theorem tb_620 : (Jvm.Cond.selects "NameSeeker$Asked" ({ cls := "NameSeeker$Asked", name := "add", desc := "(J)V" } : Jvm.MethodName) ({ cls := "NameSeeker$Asked", name := "add", desc := "(J)V" } : Jvm.MethodName)) ∈ TB := tbI 620 rfl rfl
set_option maxRecDepth 100000 in
theorem tb_621 : (Jvm.Cond.code ({ cls := "NameSeeker$Asked", name := "add", desc := "(J)V" } : Jvm.MethodName) prog_2_method_2_code (4 : Nat) (Option.none : Option Jvm.ClassFile.FieldType)) ∈ TB := tbI 621 rfl rfl
set_option maxRecDepth 100000 in
theorem tb_625 : (Jvm.Cond.methodLink "NameSeekerLaw" (85 : Nat) ({ cls := "NameSeeker", name := "best", desc := "(II)I" } : Jvm.MethodName)) ∈ TB := tbI 625 rfl rfl
set_option maxRecDepth 100000 in
theorem tb_626 : (Jvm.Cond.instanceMethod ({ cls := "NameSeeker", name := "best", desc := "(II)I" } : Jvm.MethodName)) ∈ TB := tbI 626 rfl rfl
set_option maxRecDepth 100000 in
theorem tb_627 : (Jvm.Cond.selects "NameSeeker" ({ cls := "NameSeeker", name := "best", desc := "(II)I" } : Jvm.MethodName) ({ cls := "NameSeeker", name := "best", desc := "(II)I" } : Jvm.MethodName)) ∈ TB := tbI 627 rfl rfl
set_option maxRecDepth 100000 in
theorem tb_628 : (Jvm.Cond.code ({ cls := "NameSeeker", name := "best", desc := "(II)I" } : Jvm.MethodName) prog_1_method_21_code (3 : Nat) (Option.some Jvm.ClassFile.FieldType.int)) ∈ TB := tbI 628 rfl rfl
set_option maxRecDepth 100000 in
theorem tb_629 : (Jvm.Cond.methodLink "NameSeeker" (230 : Nat) ({ cls := "NameSeeker$Laying", name := "bestPlace", desc := "(I)I" } : Jvm.MethodName)) ∈ TB := tbI 629 rfl rfl
set_option maxRecDepth 100000 in
theorem tb_630 : (Jvm.Cond.instanceMethod ({ cls := "NameSeeker$Laying", name := "bestPlace", desc := "(I)I" } : Jvm.MethodName)) ∈ TB := tbI 630 rfl rfl
set_option maxRecDepth 100000 in
theorem tb_631 : (Jvm.Cond.selects "NameSeeker$Laying" ({ cls := "NameSeeker$Laying", name := "bestPlace", desc := "(I)I" } : Jvm.MethodName) ({ cls := "NameSeeker$Laying", name := "bestPlace", desc := "(I)I" } : Jvm.MethodName)) ∈ TB := tbI 631 rfl rfl
set_option maxRecDepth 100000 in
theorem tb_632 : (Jvm.Cond.code ({ cls := "NameSeeker$Laying", name := "bestPlace", desc := "(I)I" } : Jvm.MethodName) prog_4_method_5_code (4 : Nat) (Option.some Jvm.ClassFile.FieldType.int)) ∈ TB := tbI 632 rfl rfl
set_option maxRecDepth 100000 in
theorem tb_633 : (Jvm.Cond.methodLink "NameSeekerLaw" (89 : Nat) ({ cls := "NameSeeker", name := "ways", desc := "(I)I" } : Jvm.MethodName)) ∈ TB := tbI 633 rfl rfl
set_option maxRecDepth 100000 in
theorem tb_634 : (Jvm.Cond.instanceMethod ({ cls := "NameSeeker", name := "ways", desc := "(I)I" } : Jvm.MethodName)) ∈ TB := tbI 634 rfl rfl
set_option maxRecDepth 100000 in
theorem tb_635 : (Jvm.Cond.selects "NameSeeker" ({ cls := "NameSeeker", name := "ways", desc := "(I)I" } : Jvm.MethodName) ({ cls := "NameSeeker", name := "ways", desc := "(I)I" } : Jvm.MethodName)) ∈ TB := tbI 635 rfl rfl
set_option maxRecDepth 100000 in
theorem tb_636 : (Jvm.Cond.code ({ cls := "NameSeeker", name := "ways", desc := "(I)I" } : Jvm.MethodName) prog_1_method_22_code (2 : Nat) (Option.some Jvm.ClassFile.FieldType.int)) ∈ TB := tbI 636 rfl rfl
set_option maxRecDepth 100000 in
theorem tb_637 : (Jvm.Cond.methodLink "NameSeeker" (233 : Nat) ({ cls := "NameSeeker$Laying", name := "countWays", desc := "(LNameSeeker$Name;LNameSeeker$Word;)I" } : Jvm.MethodName)) ∈ TB := tbI 637 rfl rfl
set_option maxRecDepth 100000 in
theorem tb_638 : (Jvm.Cond.instanceMethod ({ cls := "NameSeeker$Laying", name := "countWays", desc := "(LNameSeeker$Name;LNameSeeker$Word;)I" } : Jvm.MethodName)) ∈ TB := tbI 638 rfl rfl
set_option maxRecDepth 100000 in
theorem tb_639 : (Jvm.Cond.selects "NameSeeker$Laying" ({ cls := "NameSeeker$Laying", name := "countWays", desc := "(LNameSeeker$Name;LNameSeeker$Word;)I" } : Jvm.MethodName) ({ cls := "NameSeeker$Laying", name := "countWays", desc := "(LNameSeeker$Name;LNameSeeker$Word;)I" } : Jvm.MethodName)) ∈ TB := tbI 639 rfl rfl
set_option maxRecDepth 100000 in
theorem tb_640 : (Jvm.Cond.code ({ cls := "NameSeeker$Laying", name := "countWays", desc := "(LNameSeeker$Name;LNameSeeker$Word;)I" } : Jvm.MethodName) prog_4_method_6_code (5 : Nat) (Option.some Jvm.ClassFile.FieldType.int)) ∈ TB := tbI 640 rfl rfl
set_option maxRecDepth 100000 in
theorem tb_641 : (Jvm.Cond.methodLink "NameSeekerLaw" (93 : Nat) ({ cls := "NameSeeker", name := "passes", desc := "(I)I" } : Jvm.MethodName)) ∈ TB := tbI 641 rfl rfl
set_option maxRecDepth 100000 in
theorem tb_642 : (Jvm.Cond.instanceMethod ({ cls := "NameSeeker", name := "passes", desc := "(I)I" } : Jvm.MethodName)) ∈ TB := tbI 642 rfl rfl
set_option maxRecDepth 100000 in
theorem tb_643 : (Jvm.Cond.selects "NameSeeker" ({ cls := "NameSeeker", name := "passes", desc := "(I)I" } : Jvm.MethodName) ({ cls := "NameSeeker", name := "passes", desc := "(I)I" } : Jvm.MethodName)) ∈ TB := tbI 643 rfl rfl
set_option maxRecDepth 100000 in
theorem tb_644 : (Jvm.Cond.code ({ cls := "NameSeeker", name := "passes", desc := "(I)I" } : Jvm.MethodName) prog_1_method_23_code (5 : Nat) (Option.some Jvm.ClassFile.FieldType.int)) ∈ TB := tbI 644 rfl rfl
set_option maxRecDepth 100000 in
theorem tb_645 : (Jvm.Cond.methodLink "NameSeekerLaw" (97 : Nat) ({ cls := "NameSeeker", name := "asked", desc := "(I)I" } : Jvm.MethodName)) ∈ TB := tbI 645 rfl rfl
set_option maxRecDepth 100000 in
theorem tb_646 : (Jvm.Cond.instanceMethod ({ cls := "NameSeeker", name := "asked", desc := "(I)I" } : Jvm.MethodName)) ∈ TB := tbI 646 rfl rfl
set_option maxRecDepth 100000 in
theorem tb_647 : (Jvm.Cond.selects "NameSeeker" ({ cls := "NameSeeker", name := "asked", desc := "(I)I" } : Jvm.MethodName) ({ cls := "NameSeeker", name := "asked", desc := "(I)I" } : Jvm.MethodName)) ∈ TB := tbI 647 rfl rfl
set_option maxRecDepth 100000 in
theorem tb_648 : (Jvm.Cond.code ({ cls := "NameSeeker", name := "asked", desc := "(I)I" } : Jvm.MethodName) prog_1_method_24_code (2 : Nat) (Option.some Jvm.ClassFile.FieldType.int)) ∈ TB := tbI 648 rfl rfl
set_option maxRecDepth 100000 in
theorem tb_649 : (Jvm.Cond.constantLong "NameSeeker" (246 : Nat) (100003 : Int64)) ∈ TB := tbI 649 rfl rfl
set_option maxRecDepth 100000 in
theorem tb_650 : (Jvm.Cond.methodLink "NameSeekerLaw" (101 : Nat) ({ cls := "NameSeeker", name := "brief", desc := "(I)I" } : Jvm.MethodName)) ∈ TB := tbI 650 rfl rfl
set_option maxRecDepth 100000 in
theorem tb_651 : (Jvm.Cond.instanceMethod ({ cls := "NameSeeker", name := "brief", desc := "(I)I" } : Jvm.MethodName)) ∈ TB := tbI 651 rfl rfl
set_option maxRecDepth 100000 in
theorem tb_652 : (Jvm.Cond.selects "NameSeeker" ({ cls := "NameSeeker", name := "brief", desc := "(I)I" } : Jvm.MethodName) ({ cls := "NameSeeker", name := "brief", desc := "(I)I" } : Jvm.MethodName)) ∈ TB := tbI 652 rfl rfl
set_option maxRecDepth 100000 in
theorem tb_653 : (Jvm.Cond.code ({ cls := "NameSeeker", name := "brief", desc := "(I)I" } : Jvm.MethodName) prog_1_method_25_code (4 : Nat) (Option.some Jvm.ClassFile.FieldType.int)) ∈ TB := tbI 653 rfl rfl
set_option maxRecDepth 100000 in
theorem tb_654 : (Jvm.Cond.methodLink "NameSeeker" (248 : Nat) ({ cls := "NameSeeker", name := "isFirstBy", desc := "(III)Z" } : Jvm.MethodName)) ∈ TB := tbI 654 rfl rfl
set_option maxRecDepth 100000 in
theorem tb_656 : (Jvm.Cond.instanceMethod ({ cls := "NameSeeker", name := "isFirstBy", desc := "(III)Z" } : Jvm.MethodName)) ∈ TB := tbI 656 rfl rfl
set_option maxRecDepth 100000 in
theorem tb_657 : (Jvm.Cond.code ({ cls := "NameSeeker", name := "isFirstBy", desc := "(III)Z" } : Jvm.MethodName) prog_1_method_29_code (5 : Nat) (Option.some Jvm.ClassFile.FieldType.boolean)) ∈ TB := tbI 657 rfl rfl
set_option maxRecDepth 100000 in
theorem tb_658 : (Jvm.Cond.methodLink "NameSeeker" (281 : Nat) ({ cls := "NameSeeker$Ranking", name := "isFirst", desc := "(LNameSeeker$Lot;I)Z" } : Jvm.MethodName)) ∈ TB := tbI 658 rfl rfl
set_option maxRecDepth 100000 in
theorem tb_659 : (Jvm.Cond.instanceMethod ({ cls := "NameSeeker$Ranking", name := "isFirst", desc := "(LNameSeeker$Lot;I)Z" } : Jvm.MethodName)) ∈ TB := tbI 659 rfl rfl
set_option maxRecDepth 100000 in
theorem tb_660 : (Jvm.Cond.selects "NameSeeker$Ranking" ({ cls := "NameSeeker$Ranking", name := "isFirst", desc := "(LNameSeeker$Lot;I)Z" } : Jvm.MethodName) ({ cls := "NameSeeker$Ranking", name := "isFirst", desc := "(LNameSeeker$Lot;I)Z" } : Jvm.MethodName)) ∈ TB := tbI 660 rfl rfl
set_option maxRecDepth 100000 in
theorem tb_661 : (Jvm.Cond.code ({ cls := "NameSeeker$Ranking", name := "isFirst", desc := "(LNameSeeker$Lot;I)Z" } : Jvm.MethodName) prog_7_method_4_code (4 : Nat) (Option.some Jvm.ClassFile.FieldType.boolean)) ∈ TB := tbI 661 rfl rfl
set_option maxRecDepth 100000 in
theorem tb_662 : (Jvm.Cond.methodLink "NameSeekerLaw" (105 : Nat) ({ cls := "NameSeeker", name := "pair", desc := "(II)I" } : Jvm.MethodName)) ∈ TB := tbI 662 rfl rfl
set_option maxRecDepth 100000 in
theorem tb_663 : (Jvm.Cond.instanceMethod ({ cls := "NameSeeker", name := "pair", desc := "(II)I" } : Jvm.MethodName)) ∈ TB := tbI 663 rfl rfl
set_option maxRecDepth 100000 in
theorem tb_664 : (Jvm.Cond.selects "NameSeeker" ({ cls := "NameSeeker", name := "pair", desc := "(II)I" } : Jvm.MethodName) ({ cls := "NameSeeker", name := "pair", desc := "(II)I" } : Jvm.MethodName)) ∈ TB := tbI 664 rfl rfl
set_option maxRecDepth 100000 in
theorem tb_665 : (Jvm.Cond.code ({ cls := "NameSeeker", name := "pair", desc := "(II)I" } : Jvm.MethodName) prog_1_method_26_code (3 : Nat) (Option.some Jvm.ClassFile.FieldType.int)) ∈ TB := tbI 665 rfl rfl
set_option maxRecDepth 100000 in
theorem tb_672 : (Jvm.Cond.methodLink "NameSeekerLaw" (109 : Nat) ({ cls := "NameSeeker", name := "keep", desc := "()I" } : Jvm.MethodName)) ∈ TB := tbI 672 rfl rfl
set_option maxRecDepth 100000 in
theorem tb_673 : (Jvm.Cond.instanceMethod ({ cls := "NameSeeker", name := "keep", desc := "()I" } : Jvm.MethodName)) ∈ TB := tbI 673 rfl rfl
set_option maxRecDepth 100000 in
theorem tb_674 : (Jvm.Cond.selects "NameSeeker" ({ cls := "NameSeeker", name := "keep", desc := "()I" } : Jvm.MethodName) ({ cls := "NameSeeker", name := "keep", desc := "()I" } : Jvm.MethodName)) ∈ TB := tbI 674 rfl rfl
set_option maxRecDepth 100000 in
theorem tb_675 : (Jvm.Cond.code ({ cls := "NameSeeker", name := "keep", desc := "()I" } : Jvm.MethodName) prog_1_method_30_code (1 : Nat) (Option.some Jvm.ClassFile.FieldType.int)) ∈ TB := tbI 675 rfl rfl
set_option maxRecDepth 100000 in
theorem tb_676 : (Jvm.Cond.methodLink "NameSeeker" (285 : Nat) ({ cls := "NameSeeker$Word", name := "copy", desc := "(LNameSeeker$Word;)V" } : Jvm.MethodName)) ∈ TB := tbI 676 rfl rfl
set_option maxRecDepth 100000 in
theorem tb_677 : (Jvm.Cond.instanceMethod ({ cls := "NameSeeker$Word", name := "copy", desc := "(LNameSeeker$Word;)V" } : Jvm.MethodName)) ∈ TB := tbI 677 rfl rfl
set_option maxRecDepth 100000 in
theorem tb_678 : (Jvm.Cond.selects "NameSeeker$Word" ({ cls := "NameSeeker$Word", name := "copy", desc := "(LNameSeeker$Word;)V" } : Jvm.MethodName) ({ cls := "NameSeeker$Word", name := "copy", desc := "(LNameSeeker$Word;)V" } : Jvm.MethodName)) ∈ TB := tbI 678 rfl rfl
set_option maxRecDepth 100000 in
theorem tb_679 : (Jvm.Cond.code ({ cls := "NameSeeker$Word", name := "copy", desc := "(LNameSeeker$Word;)V" } : Jvm.MethodName) prog_10_method_5_code (3 : Nat) (Option.none : Option Jvm.ClassFile.FieldType)) ∈ TB := tbI 679 rfl rfl
set_option maxRecDepth 100000 in
theorem tb_680 : (Jvm.Cond.methodLink "NameSeekerLaw" (113 : Nat) ({ cls := "NameSeeker", name := "back", desc := "()I" } : Jvm.MethodName)) ∈ TB := tbI 680 rfl rfl
set_option maxRecDepth 100000 in
theorem tb_681 : (Jvm.Cond.instanceMethod ({ cls := "NameSeeker", name := "back", desc := "()I" } : Jvm.MethodName)) ∈ TB := tbI 681 rfl rfl
set_option maxRecDepth 100000 in
theorem tb_682 : (Jvm.Cond.selects "NameSeeker" ({ cls := "NameSeeker", name := "back", desc := "()I" } : Jvm.MethodName) ({ cls := "NameSeeker", name := "back", desc := "()I" } : Jvm.MethodName)) ∈ TB := tbI 682 rfl rfl
set_option maxRecDepth 100000 in
theorem tb_683 : (Jvm.Cond.code ({ cls := "NameSeeker", name := "back", desc := "()I" } : Jvm.MethodName) prog_1_method_31_code (1 : Nat) (Option.some Jvm.ClassFile.FieldType.int)) ∈ TB := tbI 683 rfl rfl
set_option maxRecDepth 100000 in
theorem tb_684 : (Jvm.Cond.methodLink "NameSeekerLaw" (117 : Nat) ({ cls := "NameSeeker", name := "count", desc := "(I)I" } : Jvm.MethodName)) ∈ TB := tbI 684 rfl rfl
set_option maxRecDepth 100000 in
theorem tb_685 : (Jvm.Cond.instanceMethod ({ cls := "NameSeeker", name := "count", desc := "(I)I" } : Jvm.MethodName)) ∈ TB := tbI 685 rfl rfl
set_option maxRecDepth 100000 in
theorem tb_686 : (Jvm.Cond.selects "NameSeeker" ({ cls := "NameSeeker", name := "count", desc := "(I)I" } : Jvm.MethodName) ({ cls := "NameSeeker", name := "count", desc := "(I)I" } : Jvm.MethodName)) ∈ TB := tbI 686 rfl rfl
set_option maxRecDepth 100000 in
theorem tb_687 : (Jvm.Cond.code ({ cls := "NameSeeker", name := "count", desc := "(I)I" } : Jvm.MethodName) prog_1_method_32_code (2 : Nat) (Option.some Jvm.ClassFile.FieldType.int)) ∈ TB := tbI 687 rfl rfl
set_option maxRecDepth 100000 in
theorem tb_688 : (Jvm.Cond.classLink "NameSeekerLaw" (10 : Nat) "NameSeekerModel") ∈ TB := tbI 688 rfl rfl
set_option maxRecDepth 100000 in
theorem tb_689 : (Jvm.Cond.instantiable "NameSeekerModel" (41 : Nat)) ∈ TB := tbI 689 rfl rfl
set_option maxRecDepth 100000 in
theorem tb_690 : (Jvm.Cond.methodLink "NameSeekerLaw" (12 : Nat) ({ cls := "NameSeekerModel", name := "<init>", desc := "()V" } : Jvm.MethodName)) ∈ TB := tbI 690 rfl rfl
set_option maxRecDepth 100000 in
theorem tb_691 : (Jvm.Cond.instanceMethod ({ cls := "NameSeekerModel", name := "<init>", desc := "()V" } : Jvm.MethodName)) ∈ TB := tbI 691 rfl rfl
set_option maxRecDepth 100000 in
theorem tb_692 : (Jvm.Cond.code ({ cls := "NameSeekerModel", name := "<init>", desc := "()V" } : Jvm.MethodName) prog_12_method_1_code (4 : Nat) (Option.none : Option Jvm.ClassFile.FieldType)) ∈ TB := tbI 692 rfl rfl
set_option maxRecDepth 100000 in
theorem tb_694 : (Jvm.Cond.fieldLink "NameSeekerModel" (112 : Nat) "NameSeekerModel" "length" "I") ∈ TB := tbI 694 rfl rfl
set_option maxRecDepth 100000 in
theorem tb_695 : (Jvm.Cond.fieldLink "NameSeekerModel" (7 : Nat) "NameSeekerModel" "text" "[I") ∈ TB := tbI 695 rfl rfl
set_option maxRecDepth 100000 in
theorem tb_696 : (Jvm.Cond.fieldLink "NameSeekerModel" (99 : Nat) "NameSeekerModel" "names" "I") ∈ TB := tbI 696 rfl rfl
set_option maxRecDepth 100000 in
theorem tb_697 : (Jvm.Cond.fieldLink "NameSeekerModel" (13 : Nat) "NameSeekerModel" "signs" "[I") ∈ TB := tbI 697 rfl rfl
set_option maxRecDepth 100000 in
theorem tb_698 : (Jvm.Cond.fieldLink "NameSeekerModel" (16 : Nat) "NameSeekerModel" "sizes" "[I") ∈ TB := tbI 698 rfl rfl
set_option maxRecDepth 100000 in
theorem tb_699 : (Jvm.Cond.fieldLink "NameSeekerModel" (19 : Nat) "NameSeekerModel" "kinds" "[I") ∈ TB := tbI 699 rfl rfl
set_option maxRecDepth 100000 in
theorem tb_700 : (Jvm.Cond.fieldLink "NameSeekerModel" (22 : Nat) "NameSeekerModel" "ids" "[I") ∈ TB := tbI 700 rfl rfl
set_option maxRecDepth 100000 in
theorem tb_701 : (Jvm.Cond.fieldLink "NameSeekerModel" (25 : Nat) "NameSeekerModel" "picks" "[I") ∈ TB := tbI 701 rfl rfl
set_option maxRecDepth 100000 in
theorem tb_702 : (Jvm.Cond.fieldLink "NameSeekerModel" (28 : Nat) "NameSeekerModel" "worths" "[I") ∈ TB := tbI 702 rfl rfl
set_option maxRecDepth 100000 in
theorem tb_703 : (Jvm.Cond.fieldLink "NameSeekerModel" (119 : Nat) "NameSeekerModel" "readNames" "I") ∈ TB := tbI 703 rfl rfl
set_option maxRecDepth 100000 in
theorem tb_704 : (Jvm.Cond.fieldLink "NameSeekerModel" (31 : Nat) "NameSeekerModel" "readSigns" "[I") ∈ TB := tbI 704 rfl rfl
set_option maxRecDepth 100000 in
theorem tb_705 : (Jvm.Cond.fieldLink "NameSeekerModel" (34 : Nat) "NameSeekerModel" "readSizes" "[I") ∈ TB := tbI 705 rfl rfl
set_option maxRecDepth 100000 in
theorem tb_706 : (Jvm.Cond.fieldLink "NameSeekerModel" (37 : Nat) "NameSeekerModel" "readKinds" "[I") ∈ TB := tbI 706 rfl rfl
set_option maxRecDepth 100000 in
theorem tb_707 : (Jvm.Cond.fieldLink "NameSeekerModel" (40 : Nat) "NameSeekerModel" "readWorths" "[I") ∈ TB := tbI 707 rfl rfl
set_option maxRecDepth 100000 in
theorem tb_708 : (Jvm.Cond.fieldLink "NameSeekerModel" (139 : Nat) "NameSeekerModel" "wordSize" "I") ∈ TB := tbI 708 rfl rfl
set_option maxRecDepth 100000 in
theorem tb_709 : (Jvm.Cond.fieldLink "NameSeekerModel" (43 : Nat) "NameSeekerModel" "wordRow" "[I") ∈ TB := tbI 709 rfl rfl
set_option maxRecDepth 100000 in
theorem tb_710 : (Jvm.Cond.fieldLink "NameSeekerModel" (142 : Nat) "NameSeekerModel" "kept" "I") ∈ TB := tbI 710 rfl rfl
set_option maxRecDepth 100000 in
theorem tb_711 : (Jvm.Cond.fieldLink "NameSeekerModel" (46 : Nat) "NameSeekerModel" "keptRows" "[I") ∈ TB := tbI 711 rfl rfl
set_option maxRecDepth 100000 in
theorem tb_712 : (Jvm.Cond.fieldLink "NameSeekerModel" (49 : Nat) "NameSeekerModel" "keptSizes" "[I") ∈ TB := tbI 712 rfl rfl
set_option maxRecDepth 100000 in
theorem tb_713 : (Jvm.Cond.fieldLink "NameSeekerModel" (102 : Nat) "NameSeekerModel" "laid" "I") ∈ TB := tbI 713 rfl rfl
set_option maxRecDepth 100000 in
theorem tb_714 : (Jvm.Cond.fieldLink "NameSeekerModel" (154 : Nat) "NameSeekerModel" "tick" "I") ∈ TB := tbI 714 rfl rfl
set_option maxRecDepth 100000 in
theorem tb_715 : (Jvm.Cond.fieldLink "NameSeekerModel" (52 : Nat) "NameSeekerModel" "age" "I") ∈ TB := tbI 715 rfl rfl
set_option maxRecDepth 100000 in
theorem tb_716 : (Jvm.Cond.fieldLink "NameSeekerModel" (192 : Nat) "NameSeekerModel" "hits" "I") ∈ TB := tbI 716 rfl rfl
set_option maxRecDepth 100000 in
theorem tb_717 : (Jvm.Cond.fieldLink "NameSeekerModel" (195 : Nat) "NameSeekerModel" "misses" "I") ∈ TB := tbI 717 rfl rfl
set_option maxRecDepth 100000 in
theorem tb_718 : (Jvm.Cond.fieldLink "NameSeekerModel" (56 : Nat) "NameSeekerModel" "seed" "I") ∈ TB := tbI 718 rfl rfl
set_option maxRecDepth 100000 in
theorem tb_719 : (Jvm.Cond.fieldLink "NameSeekerModel" (210 : Nat) "NameSeekerModel" "askedMany" "I") ∈ TB := tbI 719 rfl rfl
set_option maxRecDepth 100000 in
theorem tb_720 : (Jvm.Cond.fieldLink "NameSeekerModel" (59 : Nat) "NameSeekerModel" "askedCodes" "[J") ∈ TB := tbI 720 rfl rfl
set_option maxRecDepth 100000 in
theorem tb_721 : (Jvm.Cond.fieldLink "NameSeekerModel" (63 : Nat) "NameSeekerModel" "knownIds" "[I") ∈ TB := tbI 721 rfl rfl
set_option maxRecDepth 100000 in
theorem tb_722 : (Jvm.Cond.fieldLink "NameSeekerModel" (66 : Nat) "NameSeekerModel" "knownCodes" "[J") ∈ TB := tbI 722 rfl rfl
set_option maxRecDepth 100000 in
theorem tb_723 : (Jvm.Cond.fieldLink "NameSeekerModel" (69 : Nat) "NameSeekerModel" "knownAges" "[I") ∈ TB := tbI 723 rfl rfl
set_option maxRecDepth 100000 in
theorem tb_724 : (Jvm.Cond.fieldLink "NameSeekerModel" (72 : Nat) "NameSeekerModel" "knownScores" "[I") ∈ TB := tbI 724 rfl rfl
set_option maxRecDepth 100000 in
theorem tb_725 : (Jvm.Cond.fieldLink "NameSeekerModel" (160 : Nat) "NameSeekerModel" "triedSize" "I") ∈ TB := tbI 725 rfl rfl
set_option maxRecDepth 100000 in
theorem tb_726 : (Jvm.Cond.fieldLink "NameSeekerModel" (75 : Nat) "NameSeekerModel" "tried" "[I") ∈ TB := tbI 726 rfl rfl
set_option maxRecDepth 100000 in
theorem tb_727 : (Jvm.Cond.fieldLink "NameSeekerModel" (78 : Nat) "NameSeekerModel" "at" "[I") ∈ TB := tbI 727 rfl rfl
set_option maxRecDepth 100000 in
theorem tb_728 : (Jvm.Cond.fieldLink "NameSeekerModel" (81 : Nat) "NameSeekerModel" "bestAt" "[I") ∈ TB := tbI 728 rfl rfl
set_option maxRecDepth 100000 in
theorem tb_729 : (Jvm.Cond.fieldLink "NameSeekerModel" (167 : Nat) "NameSeekerModel" "bestWorth" "I") ∈ TB := tbI 729 rfl rfl
set_option maxRecDepth 100000 in
theorem tb_730 : (Jvm.Cond.fieldLink "NameSeekerModel" (84 : Nat) "NameSeekerModel" "scores" "[I") ∈ TB := tbI 730 rfl rfl
set_option maxRecDepth 100000 in
theorem tb_731 : (Jvm.Cond.fieldLink "NameSeekerModel" (87 : Nat) "NameSeekerModel" "firstLetters" "[I") ∈ TB := tbI 731 rfl rfl
set_option maxRecDepth 100000 in
theorem tb_732 : (Jvm.Cond.fieldLink "NameSeekerModel" (90 : Nat) "NameSeekerModel" "lastLetters" "[I") ∈ TB := tbI 732 rfl rfl
set_option maxRecDepth 100000 in
theorem tb_733 : (Jvm.Cond.fieldLink "NameSeekerModel" (93 : Nat) "NameSeekerModel" "firstSizes" "[I") ∈ TB := tbI 733 rfl rfl
set_option maxRecDepth 100000 in
theorem tb_734 : (Jvm.Cond.fieldLink "NameSeekerModel" (96 : Nat) "NameSeekerModel" "firstKinds" "[I") ∈ TB := tbI 734 rfl rfl
set_option maxRecDepth 100000 in
theorem tb_818 : (Jvm.Cond.methodLink "NameSeekerLaw" (17 : Nat) ({ cls := "NameSeekerModel", name := "write", desc := "(I)I" } : Jvm.MethodName)) ∈ TB := tbI 818 rfl rfl
set_option maxRecDepth 100000 in
theorem tb_819 : (Jvm.Cond.instanceMethod ({ cls := "NameSeekerModel", name := "write", desc := "(I)I" } : Jvm.MethodName)) ∈ TB := tbI 819 rfl rfl
set_option maxRecDepth 100000 in
theorem tb_820 : (Jvm.Cond.selects "NameSeekerModel" ({ cls := "NameSeekerModel", name := "write", desc := "(I)I" } : Jvm.MethodName) ({ cls := "NameSeekerModel", name := "write", desc := "(I)I" } : Jvm.MethodName)) ∈ TB := tbI 820 rfl rfl
set_option maxRecDepth 100000 in
theorem tb_821 : (Jvm.Cond.code ({ cls := "NameSeekerModel", name := "write", desc := "(I)I" } : Jvm.MethodName) prog_12_method_10_code (2 : Nat) (Option.some Jvm.ClassFile.FieldType.int)) ∈ TB := tbI 821 rfl rfl
set_option maxRecDepth 100000 in
theorem tb_822 : (Jvm.Cond.methodLink "NameSeekerLaw" (22 : Nat) ({ cls := "NameSeekerModel", name := "wipe", desc := "()I" } : Jvm.MethodName)) ∈ TB := tbI 822 rfl rfl
set_option maxRecDepth 100000 in
theorem tb_823 : (Jvm.Cond.instanceMethod ({ cls := "NameSeekerModel", name := "wipe", desc := "()I" } : Jvm.MethodName)) ∈ TB := tbI 823 rfl rfl
set_option maxRecDepth 100000 in
theorem tb_824 : (Jvm.Cond.selects "NameSeekerModel" ({ cls := "NameSeekerModel", name := "wipe", desc := "()I" } : Jvm.MethodName) ({ cls := "NameSeekerModel", name := "wipe", desc := "()I" } : Jvm.MethodName)) ∈ TB := tbI 824 rfl rfl
set_option maxRecDepth 100000 in
theorem tb_825 : (Jvm.Cond.code ({ cls := "NameSeekerModel", name := "wipe", desc := "()I" } : Jvm.MethodName) prog_12_method_11_code (2 : Nat) (Option.some Jvm.ClassFile.FieldType.int)) ∈ TB := tbI 825 rfl rfl
set_option maxRecDepth 100000 in
theorem tb_826 : (Jvm.Cond.methodLink "NameSeekerLaw" (26 : Nat) ({ cls := "NameSeekerModel", name := "fault", desc := "()I" } : Jvm.MethodName)) ∈ TB := tbI 826 rfl rfl
set_option maxRecDepth 100000 in
theorem tb_827 : (Jvm.Cond.instanceMethod ({ cls := "NameSeekerModel", name := "fault", desc := "()I" } : Jvm.MethodName)) ∈ TB := tbI 827 rfl rfl
set_option maxRecDepth 100000 in
theorem tb_828 : (Jvm.Cond.selects "NameSeekerModel" ({ cls := "NameSeekerModel", name := "fault", desc := "()I" } : Jvm.MethodName) ({ cls := "NameSeekerModel", name := "fault", desc := "()I" } : Jvm.MethodName)) ∈ TB := tbI 828 rfl rfl
set_option maxRecDepth 100000 in
theorem tb_829 : (Jvm.Cond.code ({ cls := "NameSeekerModel", name := "fault", desc := "()I" } : Jvm.MethodName) prog_12_method_12_code (1 : Nat) (Option.some Jvm.ClassFile.FieldType.int)) ∈ TB := tbI 829 rfl rfl
set_option maxRecDepth 100000 in
theorem tb_830 : (Jvm.Cond.methodLink "NameSeekerModel" (135 : Nat) ({ cls := "NameSeekerModel", name := "reads", desc := "()I" } : Jvm.MethodName)) ∈ TB := tbI 830 rfl rfl
set_option maxRecDepth 100000 in
theorem tb_832 : (Jvm.Cond.instanceMethod ({ cls := "NameSeekerModel", name := "reads", desc := "()I" } : Jvm.MethodName)) ∈ TB := tbI 832 rfl rfl
set_option maxRecDepth 100000 in
theorem tb_833 : (Jvm.Cond.code ({ cls := "NameSeekerModel", name := "reads", desc := "()I" } : Jvm.MethodName) prog_12_method_9_code (3 : Nat) (Option.some Jvm.ClassFile.FieldType.int)) ∈ TB := tbI 833 rfl rfl
set_option maxRecDepth 100000 in
theorem tb_834 : (Jvm.Cond.methodLink "NameSeekerModel" (129 : Nat) ({ cls := "NameSeekerModel", name := "readsName", desc := "(I)I" } : Jvm.MethodName)) ∈ TB := tbI 834 rfl rfl
set_option maxRecDepth 100000 in
theorem tb_836 : (Jvm.Cond.instanceMethod ({ cls := "NameSeekerModel", name := "readsName", desc := "(I)I" } : Jvm.MethodName)) ∈ TB := tbI 836 rfl rfl
set_option maxRecDepth 100000 in
theorem tb_837 : (Jvm.Cond.code ({ cls := "NameSeekerModel", name := "readsName", desc := "(I)I" } : Jvm.MethodName) prog_12_method_7_code (4 : Nat) (Option.some Jvm.ClassFile.FieldType.int)) ∈ TB := tbI 837 rfl rfl
set_option maxRecDepth 100000 in
theorem tb_838 : (Jvm.Cond.methodLink "NameSeekerModel" (122 : Nat) ({ cls := "NameSeekerModel", name := "isFigure", desc := "(II)Z" } : Jvm.MethodName)) ∈ TB := tbI 838 rfl rfl
set_option maxRecDepth 100000 in
theorem tb_840 : (Jvm.Cond.instanceMethod ({ cls := "NameSeekerModel", name := "isFigure", desc := "(II)Z" } : Jvm.MethodName)) ∈ TB := tbI 840 rfl rfl
set_option maxRecDepth 100000 in
theorem tb_841 : (Jvm.Cond.code ({ cls := "NameSeekerModel", name := "isFigure", desc := "(II)Z" } : Jvm.MethodName) prog_12_method_6_code (3 : Nat) (Option.some Jvm.ClassFile.FieldType.boolean)) ∈ TB := tbI 841 rfl rfl
set_option maxRecDepth 100000 in
theorem tb_842 : (Jvm.Cond.methodLink "NameSeekerModel" (115 : Nat) ({ cls := "NameSeekerModel", name := "letterAt", desc := "(I)I" } : Jvm.MethodName)) ∈ TB := tbI 842 rfl rfl
set_option maxRecDepth 100000 in
theorem tb_844 : (Jvm.Cond.instanceMethod ({ cls := "NameSeekerModel", name := "letterAt", desc := "(I)I" } : Jvm.MethodName)) ∈ TB := tbI 844 rfl rfl
set_option maxRecDepth 100000 in
theorem tb_845 : (Jvm.Cond.code ({ cls := "NameSeekerModel", name := "letterAt", desc := "(I)I" } : Jvm.MethodName) prog_12_method_5_code (2 : Nat) (Option.some Jvm.ClassFile.FieldType.int)) ∈ TB := tbI 845 rfl rfl
set_option maxRecDepth 100000 in
theorem tb_846 : (Jvm.Cond.methodLink "NameSeekerModel" (126 : Nat) ({ cls := "NameSeekerModel", name := "isSign", desc := "(I)Z" } : Jvm.MethodName)) ∈ TB := tbI 846 rfl rfl
set_option maxRecDepth 100000 in
theorem tb_847 : (Jvm.Cond.static ({ cls := "NameSeekerModel", name := "isSign", desc := "(I)Z" } : Jvm.MethodName)) ∈ TB := tbI 847 rfl rfl
set_option maxRecDepth 100000 in
theorem tb_848 : (Jvm.Cond.code ({ cls := "NameSeekerModel", name := "isSign", desc := "(I)Z" } : Jvm.MethodName) prog_12_method_4_code (1 : Nat) (Option.some Jvm.ClassFile.FieldType.boolean)) ∈ TB := tbI 848 rfl rfl
set_option maxRecDepth 100000 in
theorem tb_849 : (Jvm.Cond.methodLink "NameSeekerModel" (105 : Nat) ({ cls := "NameSeekerModel", name := "isSmall", desc := "(I)Z" } : Jvm.MethodName)) ∈ TB := tbI 849 rfl rfl
set_option maxRecDepth 100000 in
theorem tb_850 : (Jvm.Cond.static ({ cls := "NameSeekerModel", name := "isSmall", desc := "(I)Z" } : Jvm.MethodName)) ∈ TB := tbI 850 rfl rfl
set_option maxRecDepth 100000 in
theorem tb_851 : (Jvm.Cond.code ({ cls := "NameSeekerModel", name := "isSmall", desc := "(I)Z" } : Jvm.MethodName) prog_12_method_2_code (1 : Nat) (Option.some Jvm.ClassFile.FieldType.boolean)) ∈ TB := tbI 851 rfl rfl
set_option maxRecDepth 100000 in
theorem tb_852 : (Jvm.Cond.methodLink "NameSeekerModel" (109 : Nat) ({ cls := "NameSeekerModel", name := "isGreat", desc := "(I)Z" } : Jvm.MethodName)) ∈ TB := tbI 852 rfl rfl
set_option maxRecDepth 100000 in
theorem tb_853 : (Jvm.Cond.static ({ cls := "NameSeekerModel", name := "isGreat", desc := "(I)Z" } : Jvm.MethodName)) ∈ TB := tbI 853 rfl rfl
set_option maxRecDepth 100000 in
theorem tb_854 : (Jvm.Cond.code ({ cls := "NameSeekerModel", name := "isGreat", desc := "(I)Z" } : Jvm.MethodName) prog_12_method_3_code (1 : Nat) (Option.some Jvm.ClassFile.FieldType.boolean)) ∈ TB := tbI 854 rfl rfl
set_option maxRecDepth 100000 in
theorem tb_855 : (Jvm.Cond.methodLink "NameSeekerModel" (132 : Nat) ({ cls := "NameSeekerModel", name := "readsWorths", desc := "(I)I" } : Jvm.MethodName)) ∈ TB := tbI 855 rfl rfl
set_option maxRecDepth 100000 in
theorem tb_857 : (Jvm.Cond.instanceMethod ({ cls := "NameSeekerModel", name := "readsWorths", desc := "(I)I" } : Jvm.MethodName)) ∈ TB := tbI 857 rfl rfl
set_option maxRecDepth 100000 in
theorem tb_858 : (Jvm.Cond.code ({ cls := "NameSeekerModel", name := "readsWorths", desc := "(I)I" } : Jvm.MethodName) prog_12_method_8_code (3 : Nat) (Option.some Jvm.ClassFile.FieldType.int)) ∈ TB := tbI 858 rfl rfl
set_option maxRecDepth 100000 in
theorem tb_859 : (Jvm.Cond.methodLink "NameSeekerLaw" (30 : Nat) ({ cls := "NameSeekerModel", name := "lay", desc := "()I" } : Jvm.MethodName)) ∈ TB := tbI 859 rfl rfl
set_option maxRecDepth 100000 in
theorem tb_860 : (Jvm.Cond.instanceMethod ({ cls := "NameSeekerModel", name := "lay", desc := "()I" } : Jvm.MethodName)) ∈ TB := tbI 860 rfl rfl
set_option maxRecDepth 100000 in
theorem tb_861 : (Jvm.Cond.selects "NameSeekerModel" ({ cls := "NameSeekerModel", name := "lay", desc := "()I" } : Jvm.MethodName) ({ cls := "NameSeekerModel", name := "lay", desc := "()I" } : Jvm.MethodName)) ∈ TB := tbI 861 rfl rfl
set_option maxRecDepth 100000 in
theorem tb_862 : (Jvm.Cond.code ({ cls := "NameSeekerModel", name := "lay", desc := "()I" } : Jvm.MethodName) prog_12_method_13_code (3 : Nat) (Option.some Jvm.ClassFile.FieldType.int)) ∈ TB := tbI 862 rfl rfl
set_option maxRecDepth 100000 in
theorem tb_863 : (Jvm.Cond.methodLink "NameSeekerLaw" (35 : Nat) ({ cls := "NameSeekerModel", name := "name", desc := "(II)I" } : Jvm.MethodName)) ∈ TB := tbI 863 rfl rfl
set_option maxRecDepth 100000 in
theorem tb_864 : (Jvm.Cond.instanceMethod ({ cls := "NameSeekerModel", name := "name", desc := "(II)I" } : Jvm.MethodName)) ∈ TB := tbI 864 rfl rfl
set_option maxRecDepth 100000 in
theorem tb_865 : (Jvm.Cond.selects "NameSeekerModel" ({ cls := "NameSeekerModel", name := "name", desc := "(II)I" } : Jvm.MethodName) ({ cls := "NameSeekerModel", name := "name", desc := "(II)I" } : Jvm.MethodName)) ∈ TB := tbI 865 rfl rfl
set_option maxRecDepth 100000 in
theorem tb_866 : (Jvm.Cond.code ({ cls := "NameSeekerModel", name := "name", desc := "(II)I" } : Jvm.MethodName) prog_12_method_16_code (5 : Nat) (Option.some Jvm.ClassFile.FieldType.int)) ∈ TB := tbI 866 rfl rfl
set_option maxRecDepth 100000 in
theorem tb_867 : (Jvm.Cond.methodLink "NameSeekerModel" (145 : Nat) ({ cls := "NameSeekerModel", name := "isName", desc := "(I)Z" } : Jvm.MethodName)) ∈ TB := tbI 867 rfl rfl
set_option maxRecDepth 100000 in
theorem tb_869 : (Jvm.Cond.instanceMethod ({ cls := "NameSeekerModel", name := "isName", desc := "(I)Z" } : Jvm.MethodName)) ∈ TB := tbI 869 rfl rfl
set_option maxRecDepth 100000 in
theorem tb_870 : (Jvm.Cond.code ({ cls := "NameSeekerModel", name := "isName", desc := "(I)Z" } : Jvm.MethodName) prog_12_method_14_code (2 : Nat) (Option.some Jvm.ClassFile.FieldType.boolean)) ∈ TB := tbI 870 rfl rfl
set_option maxRecDepth 100000 in
theorem tb_871 : (Jvm.Cond.methodLink "NameSeekerModel" (148 : Nat) ({ cls := "NameSeekerModel", name := "isBeginning", desc := "(II)Z" } : Jvm.MethodName)) ∈ TB := tbI 871 rfl rfl
set_option maxRecDepth 100000 in
theorem tb_873 : (Jvm.Cond.instanceMethod ({ cls := "NameSeekerModel", name := "isBeginning", desc := "(II)Z" } : Jvm.MethodName)) ∈ TB := tbI 873 rfl rfl
set_option maxRecDepth 100000 in
theorem tb_874 : (Jvm.Cond.code ({ cls := "NameSeekerModel", name := "isBeginning", desc := "(II)Z" } : Jvm.MethodName) prog_12_method_15_code (5 : Nat) (Option.some Jvm.ClassFile.FieldType.boolean)) ∈ TB := tbI 874 rfl rfl
set_option maxRecDepth 100000 in
theorem tb_875 : (Jvm.Cond.methodLink "NameSeekerLaw" (39 : Nat) ({ cls := "NameSeekerModel", name := "sign", desc := "(II)I" } : Jvm.MethodName)) ∈ TB := tbI 875 rfl rfl
set_option maxRecDepth 100000 in
theorem tb_876 : (Jvm.Cond.instanceMethod ({ cls := "NameSeekerModel", name := "sign", desc := "(II)I" } : Jvm.MethodName)) ∈ TB := tbI 876 rfl rfl
set_option maxRecDepth 100000 in
theorem tb_877 : (Jvm.Cond.selects "NameSeekerModel" ({ cls := "NameSeekerModel", name := "sign", desc := "(II)I" } : Jvm.MethodName) ({ cls := "NameSeekerModel", name := "sign", desc := "(II)I" } : Jvm.MethodName)) ∈ TB := tbI 877 rfl rfl
set_option maxRecDepth 100000 in
theorem tb_878 : (Jvm.Cond.code ({ cls := "NameSeekerModel", name := "sign", desc := "(II)I" } : Jvm.MethodName) prog_12_method_17_code (3 : Nat) (Option.some Jvm.ClassFile.FieldType.int)) ∈ TB := tbI 878 rfl rfl
set_option maxRecDepth 100000 in
theorem tb_879 : (Jvm.Cond.methodLink "NameSeekerLaw" (43 : Nat) ({ cls := "NameSeekerModel", name := "type", desc := "(I)I" } : Jvm.MethodName)) ∈ TB := tbI 879 rfl rfl
set_option maxRecDepth 100000 in
theorem tb_880 : (Jvm.Cond.instanceMethod ({ cls := "NameSeekerModel", name := "type", desc := "(I)I" } : Jvm.MethodName)) ∈ TB := tbI 880 rfl rfl
set_option maxRecDepth 100000 in
theorem tb_881 : (Jvm.Cond.selects "NameSeekerModel" ({ cls := "NameSeekerModel", name := "type", desc := "(I)I" } : Jvm.MethodName) ({ cls := "NameSeekerModel", name := "type", desc := "(I)I" } : Jvm.MethodName)) ∈ TB := tbI 881 rfl rfl
set_option maxRecDepth 100000 in
theorem tb_882 : (Jvm.Cond.code ({ cls := "NameSeekerModel", name := "type", desc := "(I)I" } : Jvm.MethodName) prog_12_method_18_code (2 : Nat) (Option.some Jvm.ClassFile.FieldType.int)) ∈ TB := tbI 882 rfl rfl
set_option maxRecDepth 100000 in
theorem tb_883 : (Jvm.Cond.methodLink "NameSeekerLaw" (47 : Nat) ({ cls := "NameSeekerModel", name := "untype", desc := "()I" } : Jvm.MethodName)) ∈ TB := tbI 883 rfl rfl
set_option maxRecDepth 100000 in
theorem tb_884 : (Jvm.Cond.instanceMethod ({ cls := "NameSeekerModel", name := "untype", desc := "()I" } : Jvm.MethodName)) ∈ TB := tbI 884 rfl rfl
set_option maxRecDepth 100000 in
theorem tb_885 : (Jvm.Cond.selects "NameSeekerModel" ({ cls := "NameSeekerModel", name := "untype", desc := "()I" } : Jvm.MethodName) ({ cls := "NameSeekerModel", name := "untype", desc := "()I" } : Jvm.MethodName)) ∈ TB := tbI 885 rfl rfl
set_option maxRecDepth 100000 in
theorem tb_886 : (Jvm.Cond.code ({ cls := "NameSeekerModel", name := "untype", desc := "()I" } : Jvm.MethodName) prog_12_method_19_code (1 : Nat) (Option.some Jvm.ClassFile.FieldType.int)) ∈ TB := tbI 886 rfl rfl
set_option maxRecDepth 100000 in
theorem tb_887 : (Jvm.Cond.methodLink "NameSeekerLaw" (51 : Nat) ({ cls := "NameSeekerModel", name := "roll", desc := "()I" } : Jvm.MethodName)) ∈ TB := tbI 887 rfl rfl
set_option maxRecDepth 100000 in
theorem tb_888 : (Jvm.Cond.instanceMethod ({ cls := "NameSeekerModel", name := "roll", desc := "()I" } : Jvm.MethodName)) ∈ TB := tbI 888 rfl rfl
set_option maxRecDepth 100000 in
theorem tb_889 : (Jvm.Cond.selects "NameSeekerModel" ({ cls := "NameSeekerModel", name := "roll", desc := "()I" } : Jvm.MethodName) ({ cls := "NameSeekerModel", name := "roll", desc := "()I" } : Jvm.MethodName)) ∈ TB := tbI 889 rfl rfl
set_option maxRecDepth 100000 in
theorem tb_890 : (Jvm.Cond.code ({ cls := "NameSeekerModel", name := "roll", desc := "()I" } : Jvm.MethodName) prog_12_method_20_code (1 : Nat) (Option.some Jvm.ClassFile.FieldType.int)) ∈ TB := tbI 890 rfl rfl
set_option maxRecDepth 100000 in
theorem tb_892 : (Jvm.Cond.methodLink "NameSeekerLaw" (55 : Nat) ({ cls := "NameSeekerModel", name := "word", desc := "(I)I" } : Jvm.MethodName)) ∈ TB := tbI 892 rfl rfl
set_option maxRecDepth 100000 in
theorem tb_893 : (Jvm.Cond.instanceMethod ({ cls := "NameSeekerModel", name := "word", desc := "(I)I" } : Jvm.MethodName)) ∈ TB := tbI 893 rfl rfl
set_option maxRecDepth 100000 in
theorem tb_894 : (Jvm.Cond.selects "NameSeekerModel" ({ cls := "NameSeekerModel", name := "word", desc := "(I)I" } : Jvm.MethodName) ({ cls := "NameSeekerModel", name := "word", desc := "(I)I" } : Jvm.MethodName)) ∈ TB := tbI 894 rfl rfl
set_option maxRecDepth 100000 in
theorem tb_895 : (Jvm.Cond.code ({ cls := "NameSeekerModel", name := "word", desc := "(I)I" } : Jvm.MethodName) prog_12_method_21_code (2 : Nat) (Option.some Jvm.ClassFile.FieldType.int)) ∈ TB := tbI 895 rfl rfl
set_option maxRecDepth 100000 in
theorem tb_896 : (Jvm.Cond.methodLink "NameSeekerLaw" (59 : Nat) ({ cls := "NameSeekerModel", name := "pick", desc := "(I)I" } : Jvm.MethodName)) ∈ TB := tbI 896 rfl rfl
set_option maxRecDepth 100000 in
theorem tb_897 : (Jvm.Cond.instanceMethod ({ cls := "NameSeekerModel", name := "pick", desc := "(I)I" } : Jvm.MethodName)) ∈ TB := tbI 897 rfl rfl
set_option maxRecDepth 100000 in
theorem tb_898 : (Jvm.Cond.selects "NameSeekerModel" ({ cls := "NameSeekerModel", name := "pick", desc := "(I)I" } : Jvm.MethodName) ({ cls := "NameSeekerModel", name := "pick", desc := "(I)I" } : Jvm.MethodName)) ∈ TB := tbI 898 rfl rfl
set_option maxRecDepth 100000 in
theorem tb_899 : (Jvm.Cond.code ({ cls := "NameSeekerModel", name := "pick", desc := "(I)I" } : Jvm.MethodName) prog_12_method_23_code (2 : Nat) (Option.some Jvm.ClassFile.FieldType.int)) ∈ TB := tbI 899 rfl rfl
set_option maxRecDepth 100000 in
theorem tb_900 : (Jvm.Cond.methodLink "NameSeekerLaw" (63 : Nat) ({ cls := "NameSeekerModel", name := "forget", desc := "(I)I" } : Jvm.MethodName)) ∈ TB := tbI 900 rfl rfl
set_option maxRecDepth 100000 in
theorem tb_901 : (Jvm.Cond.instanceMethod ({ cls := "NameSeekerModel", name := "forget", desc := "(I)I" } : Jvm.MethodName)) ∈ TB := tbI 901 rfl rfl
set_option maxRecDepth 100000 in
theorem tb_902 : (Jvm.Cond.selects "NameSeekerModel" ({ cls := "NameSeekerModel", name := "forget", desc := "(I)I" } : Jvm.MethodName) ({ cls := "NameSeekerModel", name := "forget", desc := "(I)I" } : Jvm.MethodName)) ∈ TB := tbI 902 rfl rfl
set_option maxRecDepth 100000 in
theorem tb_903 : (Jvm.Cond.code ({ cls := "NameSeekerModel", name := "forget", desc := "(I)I" } : Jvm.MethodName) prog_12_method_24_code (3 : Nat) (Option.some Jvm.ClassFile.FieldType.int)) ∈ TB := tbI 903 rfl rfl
set_option maxRecDepth 100000 in
theorem tb_904 : (Jvm.Cond.methodLink "NameSeekerLaw" (67 : Nat) ({ cls := "NameSeekerModel", name := "drop", desc := "(I)I" } : Jvm.MethodName)) ∈ TB := tbI 904 rfl rfl
set_option maxRecDepth 100000 in
theorem tb_905 : (Jvm.Cond.instanceMethod ({ cls := "NameSeekerModel", name := "drop", desc := "(I)I" } : Jvm.MethodName)) ∈ TB := tbI 905 rfl rfl
set_option maxRecDepth 100000 in
theorem tb_906 : (Jvm.Cond.selects "NameSeekerModel" ({ cls := "NameSeekerModel", name := "drop", desc := "(I)I" } : Jvm.MethodName) ({ cls := "NameSeekerModel", name := "drop", desc := "(I)I" } : Jvm.MethodName)) ∈ TB := tbI 906 rfl rfl
set_option maxRecDepth 100000 in
theorem tb_907 : (Jvm.Cond.code ({ cls := "NameSeekerModel", name := "drop", desc := "(I)I" } : Jvm.MethodName) prog_12_method_25_code (4 : Nat) (Option.some Jvm.ClassFile.FieldType.int)) ∈ TB := tbI 907 rfl rfl
set_option maxRecDepth 100000 in
theorem tb_908 : (Jvm.Cond.methodLink "NameSeekerLaw" (71 : Nat) ({ cls := "NameSeekerModel", name := "rename", desc := "(II)I" } : Jvm.MethodName)) ∈ TB := tbI 908 rfl rfl
set_option maxRecDepth 100000 in
theorem tb_909 : (Jvm.Cond.instanceMethod ({ cls := "NameSeekerModel", name := "rename", desc := "(II)I" } : Jvm.MethodName)) ∈ TB := tbI 909 rfl rfl
set_option maxRecDepth 100000 in
theorem tb_910 : (Jvm.Cond.selects "NameSeekerModel" ({ cls := "NameSeekerModel", name := "rename", desc := "(II)I" } : Jvm.MethodName) ({ cls := "NameSeekerModel", name := "rename", desc := "(II)I" } : Jvm.MethodName)) ∈ TB := tbI 910 rfl rfl
set_option maxRecDepth 100000 in
theorem tb_911 : (Jvm.Cond.code ({ cls := "NameSeekerModel", name := "rename", desc := "(II)I" } : Jvm.MethodName) prog_12_method_26_code (4 : Nat) (Option.some Jvm.ClassFile.FieldType.int)) ∈ TB := tbI 911 rfl rfl
set_option maxRecDepth 100000 in
theorem tb_912 : (Jvm.Cond.methodLink "NameSeekerLaw" (76 : Nat) ({ cls := "NameSeekerModel", name := "worth", desc := "(III)I" } : Jvm.MethodName)) ∈ TB := tbI 912 rfl rfl
set_option maxRecDepth 100000 in
theorem tb_913 : (Jvm.Cond.instanceMethod ({ cls := "NameSeekerModel", name := "worth", desc := "(III)I" } : Jvm.MethodName)) ∈ TB := tbI 913 rfl rfl
set_option maxRecDepth 100000 in
theorem tb_914 : (Jvm.Cond.selects "NameSeekerModel" ({ cls := "NameSeekerModel", name := "worth", desc := "(III)I" } : Jvm.MethodName) ({ cls := "NameSeekerModel", name := "worth", desc := "(III)I" } : Jvm.MethodName)) ∈ TB := tbI 914 rfl rfl
set_option maxRecDepth 100000 in
theorem tb_915 : (Jvm.Cond.code ({ cls := "NameSeekerModel", name := "worth", desc := "(III)I" } : Jvm.MethodName) prog_12_method_27_code (4 : Nat) (Option.some Jvm.ClassFile.FieldType.int)) ∈ TB := tbI 915 rfl rfl
set_option maxRecDepth 100000 in
theorem tb_916 : (Jvm.Cond.methodLink "NameSeekerLaw" (80 : Nat) ({ cls := "NameSeekerModel", name := "score", desc := "(I)I" } : Jvm.MethodName)) ∈ TB := tbI 916 rfl rfl
set_option maxRecDepth 100000 in
theorem tb_917 : (Jvm.Cond.instanceMethod ({ cls := "NameSeekerModel", name := "score", desc := "(I)I" } : Jvm.MethodName)) ∈ TB := tbI 917 rfl rfl
set_option maxRecDepth 100000 in
theorem tb_918 : (Jvm.Cond.selects "NameSeekerModel" ({ cls := "NameSeekerModel", name := "score", desc := "(I)I" } : Jvm.MethodName) ({ cls := "NameSeekerModel", name := "score", desc := "(I)I" } : Jvm.MethodName)) ∈ TB := tbI 918 rfl rfl
set_option maxRecDepth 100000 in
theorem tb_919 : (Jvm.Cond.code ({ cls := "NameSeekerModel", name := "score", desc := "(I)I" } : Jvm.MethodName) prog_12_method_38_code (2 : Nat) (Option.some Jvm.ClassFile.FieldType.int)) ∈ TB := tbI 919 rfl rfl
set_option maxRecDepth 100000 in
theorem tb_920 : (Jvm.Cond.methodLink "NameSeekerModel" (204 : Nat) ({ cls := "NameSeekerModel", name := "sought", desc := "(I)I" } : Jvm.MethodName)) ∈ TB := tbI 920 rfl rfl
set_option maxRecDepth 100000 in
theorem tb_922 : (Jvm.Cond.instanceMethod ({ cls := "NameSeekerModel", name := "sought", desc := "(I)I" } : Jvm.MethodName)) ∈ TB := tbI 922 rfl rfl
set_option maxRecDepth 100000 in
theorem tb_923 : (Jvm.Cond.code ({ cls := "NameSeekerModel", name := "sought", desc := "(I)I" } : Jvm.MethodName) prog_12_method_37_code (5 : Nat) (Option.some Jvm.ClassFile.FieldType.int)) ∈ TB := tbI 923 rfl rfl
set_option maxRecDepth 100000 in
theorem tb_924 : (Jvm.Cond.methodLink "NameSeekerModel" (182 : Nat) ({ cls := "NameSeekerModel", name := "code", desc := "()J" } : Jvm.MethodName)) ∈ TB := tbI 924 rfl rfl
set_option maxRecDepth 100000 in
theorem tb_926 : (Jvm.Cond.instanceMethod ({ cls := "NameSeekerModel", name := "code", desc := "()J" } : Jvm.MethodName)) ∈ TB := tbI 926 rfl rfl
set_option maxRecDepth 100000 in
theorem tb_927 : (Jvm.Cond.code ({ cls := "NameSeekerModel", name := "code", desc := "()J" } : Jvm.MethodName) prog_12_method_22_code (5 : Nat) (Option.some Jvm.ClassFile.FieldType.long)) ∈ TB := tbI 927 rfl rfl
set_option maxRecDepth 100000 in
theorem tb_928 : (Jvm.Cond.constantLong "NameSeekerModel" (152 : Nat) (53 : Int64)) ∈ TB := tbI 928 rfl rfl
set_option maxRecDepth 100000 in
theorem tb_929 : (Jvm.Cond.constantLong "NameSeekerModel" (186 : Nat) (31 : Int64)) ∈ TB := tbI 929 rfl rfl
set_option maxRecDepth 100000 in
theorem tb_930 : (Jvm.Cond.constantLong "NameSeekerModel" (188 : Nat) (7 : Int64)) ∈ TB := tbI 930 rfl rfl
set_option maxRecDepth 100000 in
theorem tb_931 : (Jvm.Cond.constantLong "NameSeekerModel" (190 : Nat) (32 : Int64)) ∈ TB := tbI 931 rfl rfl
set_option maxRecDepth 100000 in
theorem tb_932 : (Jvm.Cond.methodLink "NameSeekerModel" (198 : Nat) ({ cls := "NameSeekerModel", name := "triesWord", desc := "()V" } : Jvm.MethodName)) ∈ TB := tbI 932 rfl rfl
set_option maxRecDepth 100000 in
theorem tb_934 : (Jvm.Cond.instanceMethod ({ cls := "NameSeekerModel", name := "triesWord", desc := "()V" } : Jvm.MethodName)) ∈ TB := tbI 934 rfl rfl
set_option maxRecDepth 100000 in
theorem tb_935 : (Jvm.Cond.code ({ cls := "NameSeekerModel", name := "triesWord", desc := "()V" } : Jvm.MethodName) prog_12_method_34_code (2 : Nat) (Option.none : Option Jvm.ClassFile.FieldType)) ∈ TB := tbI 935 rfl rfl
set_option maxRecDepth 100000 in
theorem tb_936 : (Jvm.Cond.methodLink "NameSeekerModel" (201 : Nat) ({ cls := "NameSeekerModel", name := "waysOf", desc := "(I)I" } : Jvm.MethodName)) ∈ TB := tbI 936 rfl rfl
set_option maxRecDepth 100000 in
theorem tb_938 : (Jvm.Cond.instanceMethod ({ cls := "NameSeekerModel", name := "waysOf", desc := "(I)I" } : Jvm.MethodName)) ∈ TB := tbI 938 rfl rfl
set_option maxRecDepth 100000 in
theorem tb_939 : (Jvm.Cond.code ({ cls := "NameSeekerModel", name := "waysOf", desc := "(I)I" } : Jvm.MethodName) prog_12_method_33_code (6 : Nat) (Option.some Jvm.ClassFile.FieldType.int)) ∈ TB := tbI 939 rfl rfl
set_option maxRecDepth 100000 in
theorem tb_940 : (Jvm.Cond.methodLink "NameSeekerModel" (170 : Nat) ({ cls := "NameSeekerModel", name := "isWay", desc := "(I)Z" } : Jvm.MethodName)) ∈ TB := tbI 940 rfl rfl
set_option maxRecDepth 100000 in
theorem tb_942 : (Jvm.Cond.instanceMethod ({ cls := "NameSeekerModel", name := "isWay", desc := "(I)Z" } : Jvm.MethodName)) ∈ TB := tbI 942 rfl rfl
set_option maxRecDepth 100000 in
theorem tb_943 : (Jvm.Cond.code ({ cls := "NameSeekerModel", name := "isWay", desc := "(I)Z" } : Jvm.MethodName) prog_12_method_31_code (3 : Nat) (Option.some Jvm.ClassFile.FieldType.boolean)) ∈ TB := tbI 943 rfl rfl
set_option maxRecDepth 100000 in
theorem tb_944 : (Jvm.Cond.methodLink "NameSeekerModel" (163 : Nat) ({ cls := "NameSeekerModel", name := "isAlike", desc := "(III)Z" } : Jvm.MethodName)) ∈ TB := tbI 944 rfl rfl
set_option maxRecDepth 100000 in
theorem tb_946 : (Jvm.Cond.instanceMethod ({ cls := "NameSeekerModel", name := "isAlike", desc := "(III)Z" } : Jvm.MethodName)) ∈ TB := tbI 946 rfl rfl
set_option maxRecDepth 100000 in
theorem tb_947 : (Jvm.Cond.code ({ cls := "NameSeekerModel", name := "isAlike", desc := "(III)Z" } : Jvm.MethodName) prog_12_method_29_code (5 : Nat) (Option.some Jvm.ClassFile.FieldType.boolean)) ∈ TB := tbI 947 rfl rfl
set_option maxRecDepth 100000 in
theorem tb_948 : (Jvm.Cond.methodLink "NameSeekerModel" (157 : Nat) ({ cls := "NameSeekerModel", name := "low", desc := "(I)I" } : Jvm.MethodName)) ∈ TB := tbI 948 rfl rfl
set_option maxRecDepth 100000 in
theorem tb_949 : (Jvm.Cond.static ({ cls := "NameSeekerModel", name := "low", desc := "(I)I" } : Jvm.MethodName)) ∈ TB := tbI 949 rfl rfl
set_option maxRecDepth 100000 in
theorem tb_950 : (Jvm.Cond.code ({ cls := "NameSeekerModel", name := "low", desc := "(I)I" } : Jvm.MethodName) prog_12_method_28_code (1 : Nat) (Option.some Jvm.ClassFile.FieldType.int)) ∈ TB := tbI 950 rfl rfl
set_option maxRecDepth 100000 in
theorem tb_951 : (Jvm.Cond.methodLink "NameSeekerModel" (173 : Nat) ({ cls := "NameSeekerModel", name := "worthOfWay", desc := "(I)I" } : Jvm.MethodName)) ∈ TB := tbI 951 rfl rfl
set_option maxRecDepth 100000 in
theorem tb_953 : (Jvm.Cond.instanceMethod ({ cls := "NameSeekerModel", name := "worthOfWay", desc := "(I)I" } : Jvm.MethodName)) ∈ TB := tbI 953 rfl rfl
set_option maxRecDepth 100000 in
theorem tb_954 : (Jvm.Cond.code ({ cls := "NameSeekerModel", name := "worthOfWay", desc := "(I)I" } : Jvm.MethodName) prog_12_method_32_code (5 : Nat) (Option.some Jvm.ClassFile.FieldType.int)) ∈ TB := tbI 954 rfl rfl
set_option maxRecDepth 100000 in
theorem tb_955 : (Jvm.Cond.methodLink "NameSeekerModel" (176 : Nat) ({ cls := "NameSeekerModel", name := "goesOn", desc := "(I)Z" } : Jvm.MethodName)) ∈ TB := tbI 955 rfl rfl
set_option maxRecDepth 100000 in
theorem tb_957 : (Jvm.Cond.instanceMethod ({ cls := "NameSeekerModel", name := "goesOn", desc := "(I)Z" } : Jvm.MethodName)) ∈ TB := tbI 957 rfl rfl
set_option maxRecDepth 100000 in
theorem tb_958 : (Jvm.Cond.code ({ cls := "NameSeekerModel", name := "goesOn", desc := "(I)Z" } : Jvm.MethodName) prog_12_method_30_code (4 : Nat) (Option.some Jvm.ClassFile.FieldType.boolean)) ∈ TB := tbI 958 rfl rfl
set_option maxRecDepth 100000 in
theorem tb_959 : (Jvm.Cond.methodLink "NameSeekerLaw" (84 : Nat) ({ cls := "NameSeekerModel", name := "list", desc := "(I)I" } : Jvm.MethodName)) ∈ TB := tbI 959 rfl rfl
set_option maxRecDepth 100000 in
theorem tb_960 : (Jvm.Cond.instanceMethod ({ cls := "NameSeekerModel", name := "list", desc := "(I)I" } : Jvm.MethodName)) ∈ TB := tbI 960 rfl rfl
set_option maxRecDepth 100000 in
theorem tb_961 : (Jvm.Cond.selects "NameSeekerModel" ({ cls := "NameSeekerModel", name := "list", desc := "(I)I" } : Jvm.MethodName) ({ cls := "NameSeekerModel", name := "list", desc := "(I)I" } : Jvm.MethodName)) ∈ TB := tbI 961 rfl rfl
set_option maxRecDepth 100000 in
theorem tb_962 : (Jvm.Cond.code ({ cls := "NameSeekerModel", name := "list", desc := "(I)I" } : Jvm.MethodName) prog_12_method_41_code (4 : Nat) (Option.some Jvm.ClassFile.FieldType.int)) ∈ TB := tbI 962 rfl rfl
set_option maxRecDepth 100000 in
theorem tb_963 : (Jvm.Cond.methodLink "NameSeekerModel" (213 : Nat) ({ cls := "NameSeekerModel", name := "passing", desc := "(I)Z" } : Jvm.MethodName)) ∈ TB := tbI 963 rfl rfl
set_option maxRecDepth 100000 in
theorem tb_965 : (Jvm.Cond.instanceMethod ({ cls := "NameSeekerModel", name := "passing", desc := "(I)Z" } : Jvm.MethodName)) ∈ TB := tbI 965 rfl rfl
set_option maxRecDepth 100000 in
theorem tb_966 : (Jvm.Cond.code ({ cls := "NameSeekerModel", name := "passing", desc := "(I)Z" } : Jvm.MethodName) prog_12_method_36_code (3 : Nat) (Option.some Jvm.ClassFile.FieldType.boolean)) ∈ TB := tbI 966 rfl rfl
set_option maxRecDepth 100000 in
theorem tb_967 : (Jvm.Cond.methodLink "NameSeekerModel" (179 : Nat) ({ cls := "NameSeekerModel", name := "has", desc := "(II)Z" } : Jvm.MethodName)) ∈ TB := tbI 967 rfl rfl
set_option maxRecDepth 100000 in
theorem tb_969 : (Jvm.Cond.instanceMethod ({ cls := "NameSeekerModel", name := "has", desc := "(II)Z" } : Jvm.MethodName)) ∈ TB := tbI 969 rfl rfl
set_option maxRecDepth 100000 in
theorem tb_970 : (Jvm.Cond.code ({ cls := "NameSeekerModel", name := "has", desc := "(II)Z" } : Jvm.MethodName) prog_12_method_35_code (4 : Nat) (Option.some Jvm.ClassFile.FieldType.boolean)) ∈ TB := tbI 970 rfl rfl
set_option maxRecDepth 100000 in
theorem tb_971 : (Jvm.Cond.methodLink "NameSeekerModel" (216 : Nat) ({ cls := "NameSeekerModel", name := "aheadOf", desc := "(I)I" } : Jvm.MethodName)) ∈ TB := tbI 971 rfl rfl
set_option maxRecDepth 100000 in
theorem tb_973 : (Jvm.Cond.instanceMethod ({ cls := "NameSeekerModel", name := "aheadOf", desc := "(I)I" } : Jvm.MethodName)) ∈ TB := tbI 973 rfl rfl
set_option maxRecDepth 100000 in
theorem tb_974 : (Jvm.Cond.code ({ cls := "NameSeekerModel", name := "aheadOf", desc := "(I)I" } : Jvm.MethodName) prog_12_method_40_code (4 : Nat) (Option.some Jvm.ClassFile.FieldType.int)) ∈ TB := tbI 974 rfl rfl
set_option maxRecDepth 100000 in
theorem tb_975 : (Jvm.Cond.methodLink "NameSeekerModel" (207 : Nat) ({ cls := "NameSeekerModel", name := "isAhead", desc := "(II)Z" } : Jvm.MethodName)) ∈ TB := tbI 975 rfl rfl
set_option maxRecDepth 100000 in
theorem tb_977 : (Jvm.Cond.instanceMethod ({ cls := "NameSeekerModel", name := "isAhead", desc := "(II)Z" } : Jvm.MethodName)) ∈ TB := tbI 977 rfl rfl
set_option maxRecDepth 100000 in
theorem tb_978 : (Jvm.Cond.code ({ cls := "NameSeekerModel", name := "isAhead", desc := "(II)Z" } : Jvm.MethodName) prog_12_method_39_code (3 : Nat) (Option.some Jvm.ClassFile.FieldType.boolean)) ∈ TB := tbI 978 rfl rfl
set_option maxRecDepth 100000 in
theorem tb_979 : (Jvm.Cond.methodLink "NameSeekerLaw" (88 : Nat) ({ cls := "NameSeekerModel", name := "best", desc := "(II)I" } : Jvm.MethodName)) ∈ TB := tbI 979 rfl rfl
set_option maxRecDepth 100000 in
theorem tb_980 : (Jvm.Cond.instanceMethod ({ cls := "NameSeekerModel", name := "best", desc := "(II)I" } : Jvm.MethodName)) ∈ TB := tbI 980 rfl rfl
set_option maxRecDepth 100000 in
theorem tb_981 : (Jvm.Cond.selects "NameSeekerModel" ({ cls := "NameSeekerModel", name := "best", desc := "(II)I" } : Jvm.MethodName) ({ cls := "NameSeekerModel", name := "best", desc := "(II)I" } : Jvm.MethodName)) ∈ TB := tbI 981 rfl rfl
set_option maxRecDepth 100000 in
theorem tb_982 : (Jvm.Cond.code ({ cls := "NameSeekerModel", name := "best", desc := "(II)I" } : Jvm.MethodName) prog_12_method_42_code (3 : Nat) (Option.some Jvm.ClassFile.FieldType.int)) ∈ TB := tbI 982 rfl rfl
set_option maxRecDepth 100000 in
theorem tb_983 : (Jvm.Cond.methodLink "NameSeekerLaw" (92 : Nat) ({ cls := "NameSeekerModel", name := "ways", desc := "(I)I" } : Jvm.MethodName)) ∈ TB := tbI 983 rfl rfl
set_option maxRecDepth 100000 in
theorem tb_984 : (Jvm.Cond.instanceMethod ({ cls := "NameSeekerModel", name := "ways", desc := "(I)I" } : Jvm.MethodName)) ∈ TB := tbI 984 rfl rfl
set_option maxRecDepth 100000 in
theorem tb_985 : (Jvm.Cond.selects "NameSeekerModel" ({ cls := "NameSeekerModel", name := "ways", desc := "(I)I" } : Jvm.MethodName) ({ cls := "NameSeekerModel", name := "ways", desc := "(I)I" } : Jvm.MethodName)) ∈ TB := tbI 985 rfl rfl
set_option maxRecDepth 100000 in
theorem tb_986 : (Jvm.Cond.code ({ cls := "NameSeekerModel", name := "ways", desc := "(I)I" } : Jvm.MethodName) prog_12_method_43_code (2 : Nat) (Option.some Jvm.ClassFile.FieldType.int)) ∈ TB := tbI 986 rfl rfl
set_option maxRecDepth 100000 in
theorem tb_987 : (Jvm.Cond.methodLink "NameSeekerLaw" (96 : Nat) ({ cls := "NameSeekerModel", name := "passes", desc := "(I)I" } : Jvm.MethodName)) ∈ TB := tbI 987 rfl rfl
set_option maxRecDepth 100000 in
theorem tb_988 : (Jvm.Cond.instanceMethod ({ cls := "NameSeekerModel", name := "passes", desc := "(I)I" } : Jvm.MethodName)) ∈ TB := tbI 988 rfl rfl
set_option maxRecDepth 100000 in
theorem tb_989 : (Jvm.Cond.selects "NameSeekerModel" ({ cls := "NameSeekerModel", name := "passes", desc := "(I)I" } : Jvm.MethodName) ({ cls := "NameSeekerModel", name := "passes", desc := "(I)I" } : Jvm.MethodName)) ∈ TB := tbI 989 rfl rfl
set_option maxRecDepth 100000 in
theorem tb_990 : (Jvm.Cond.code ({ cls := "NameSeekerModel", name := "passes", desc := "(I)I" } : Jvm.MethodName) prog_12_method_44_code (5 : Nat) (Option.some Jvm.ClassFile.FieldType.int)) ∈ TB := tbI 990 rfl rfl
set_option maxRecDepth 100000 in
theorem tb_991 : (Jvm.Cond.methodLink "NameSeekerLaw" (100 : Nat) ({ cls := "NameSeekerModel", name := "asked", desc := "(I)I" } : Jvm.MethodName)) ∈ TB := tbI 991 rfl rfl
set_option maxRecDepth 100000 in
theorem tb_992 : (Jvm.Cond.instanceMethod ({ cls := "NameSeekerModel", name := "asked", desc := "(I)I" } : Jvm.MethodName)) ∈ TB := tbI 992 rfl rfl
set_option maxRecDepth 100000 in
theorem tb_993 : (Jvm.Cond.selects "NameSeekerModel" ({ cls := "NameSeekerModel", name := "asked", desc := "(I)I" } : Jvm.MethodName) ({ cls := "NameSeekerModel", name := "asked", desc := "(I)I" } : Jvm.MethodName)) ∈ TB := tbI 993 rfl rfl
set_option maxRecDepth 100000 in
theorem tb_994 : (Jvm.Cond.code ({ cls := "NameSeekerModel", name := "asked", desc := "(I)I" } : Jvm.MethodName) prog_12_method_45_code (2 : Nat) (Option.some Jvm.ClassFile.FieldType.int)) ∈ TB := tbI 994 rfl rfl
set_option maxRecDepth 100000 in
theorem tb_995 : (Jvm.Cond.constantLong "NameSeekerModel" (219 : Nat) (100003 : Int64)) ∈ TB := tbI 995 rfl rfl
set_option maxRecDepth 100000 in
theorem tb_996 : (Jvm.Cond.methodLink "NameSeekerLaw" (104 : Nat) ({ cls := "NameSeekerModel", name := "brief", desc := "(I)I" } : Jvm.MethodName)) ∈ TB := tbI 996 rfl rfl
set_option maxRecDepth 100000 in
theorem tb_997 : (Jvm.Cond.instanceMethod ({ cls := "NameSeekerModel", name := "brief", desc := "(I)I" } : Jvm.MethodName)) ∈ TB := tbI 997 rfl rfl
set_option maxRecDepth 100000 in
theorem tb_998 : (Jvm.Cond.selects "NameSeekerModel" ({ cls := "NameSeekerModel", name := "brief", desc := "(I)I" } : Jvm.MethodName) ({ cls := "NameSeekerModel", name := "brief", desc := "(I)I" } : Jvm.MethodName)) ∈ TB := tbI 998 rfl rfl
set_option maxRecDepth 100000 in
theorem tb_999 : (Jvm.Cond.code ({ cls := "NameSeekerModel", name := "brief", desc := "(I)I" } : Jvm.MethodName) prog_12_method_47_code (5 : Nat) (Option.some Jvm.ClassFile.FieldType.int)) ∈ TB := tbI 999 rfl rfl
set_option maxRecDepth 100000 in
theorem tb_1000 : (Jvm.Cond.methodLink "NameSeekerModel" (221 : Nat) ({ cls := "NameSeekerModel", name := "isFirst", desc := "(I)Z" } : Jvm.MethodName)) ∈ TB := tbI 1000 rfl rfl
set_option maxRecDepth 100000 in
theorem tb_1002 : (Jvm.Cond.instanceMethod ({ cls := "NameSeekerModel", name := "isFirst", desc := "(I)Z" } : Jvm.MethodName)) ∈ TB := tbI 1002 rfl rfl
set_option maxRecDepth 100000 in
theorem tb_1003 : (Jvm.Cond.code ({ cls := "NameSeekerModel", name := "isFirst", desc := "(I)Z" } : Jvm.MethodName) prog_12_method_46_code (3 : Nat) (Option.some Jvm.ClassFile.FieldType.boolean)) ∈ TB := tbI 1003 rfl rfl
set_option maxRecDepth 100000 in
theorem tb_1004 : (Jvm.Cond.methodLink "NameSeekerLaw" (108 : Nat) ({ cls := "NameSeekerModel", name := "pair", desc := "(II)I" } : Jvm.MethodName)) ∈ TB := tbI 1004 rfl rfl
set_option maxRecDepth 100000 in
theorem tb_1005 : (Jvm.Cond.instanceMethod ({ cls := "NameSeekerModel", name := "pair", desc := "(II)I" } : Jvm.MethodName)) ∈ TB := tbI 1005 rfl rfl
set_option maxRecDepth 100000 in
theorem tb_1006 : (Jvm.Cond.selects "NameSeekerModel" ({ cls := "NameSeekerModel", name := "pair", desc := "(II)I" } : Jvm.MethodName) ({ cls := "NameSeekerModel", name := "pair", desc := "(II)I" } : Jvm.MethodName)) ∈ TB := tbI 1006 rfl rfl
set_option maxRecDepth 100000 in
theorem tb_1007 : (Jvm.Cond.code ({ cls := "NameSeekerModel", name := "pair", desc := "(II)I" } : Jvm.MethodName) prog_12_method_48_code (5 : Nat) (Option.some Jvm.ClassFile.FieldType.int)) ∈ TB := tbI 1007 rfl rfl
set_option maxRecDepth 100000 in
theorem tb_1008 : (Jvm.Cond.methodLink "NameSeekerLaw" (112 : Nat) ({ cls := "NameSeekerModel", name := "keep", desc := "()I" } : Jvm.MethodName)) ∈ TB := tbI 1008 rfl rfl
set_option maxRecDepth 100000 in
theorem tb_1009 : (Jvm.Cond.instanceMethod ({ cls := "NameSeekerModel", name := "keep", desc := "()I" } : Jvm.MethodName)) ∈ TB := tbI 1009 rfl rfl
set_option maxRecDepth 100000 in
theorem tb_1010 : (Jvm.Cond.selects "NameSeekerModel" ({ cls := "NameSeekerModel", name := "keep", desc := "()I" } : Jvm.MethodName) ({ cls := "NameSeekerModel", name := "keep", desc := "()I" } : Jvm.MethodName)) ∈ TB := tbI 1010 rfl rfl
set_option maxRecDepth 100000 in
theorem tb_1011 : (Jvm.Cond.code ({ cls := "NameSeekerModel", name := "keep", desc := "()I" } : Jvm.MethodName) prog_12_method_49_code (2 : Nat) (Option.some Jvm.ClassFile.FieldType.int)) ∈ TB := tbI 1011 rfl rfl
set_option maxRecDepth 100000 in
theorem tb_1012 : (Jvm.Cond.methodLink "NameSeekerLaw" (116 : Nat) ({ cls := "NameSeekerModel", name := "back", desc := "()I" } : Jvm.MethodName)) ∈ TB := tbI 1012 rfl rfl
set_option maxRecDepth 100000 in
theorem tb_1013 : (Jvm.Cond.instanceMethod ({ cls := "NameSeekerModel", name := "back", desc := "()I" } : Jvm.MethodName)) ∈ TB := tbI 1013 rfl rfl
set_option maxRecDepth 100000 in
theorem tb_1014 : (Jvm.Cond.selects "NameSeekerModel" ({ cls := "NameSeekerModel", name := "back", desc := "()I" } : Jvm.MethodName) ({ cls := "NameSeekerModel", name := "back", desc := "()I" } : Jvm.MethodName)) ∈ TB := tbI 1014 rfl rfl
set_option maxRecDepth 100000 in
theorem tb_1015 : (Jvm.Cond.code ({ cls := "NameSeekerModel", name := "back", desc := "()I" } : Jvm.MethodName) prog_12_method_50_code (2 : Nat) (Option.some Jvm.ClassFile.FieldType.int)) ∈ TB := tbI 1015 rfl rfl
set_option maxRecDepth 100000 in
theorem tb_1016 : (Jvm.Cond.methodLink "NameSeekerLaw" (120 : Nat) ({ cls := "NameSeekerModel", name := "count", desc := "(I)I" } : Jvm.MethodName)) ∈ TB := tbI 1016 rfl rfl
set_option maxRecDepth 100000 in
theorem tb_1017 : (Jvm.Cond.instanceMethod ({ cls := "NameSeekerModel", name := "count", desc := "(I)I" } : Jvm.MethodName)) ∈ TB := tbI 1017 rfl rfl
set_option maxRecDepth 100000 in
theorem tb_1018 : (Jvm.Cond.selects "NameSeekerModel" ({ cls := "NameSeekerModel", name := "count", desc := "(I)I" } : Jvm.MethodName) ({ cls := "NameSeekerModel", name := "count", desc := "(I)I" } : Jvm.MethodName)) ∈ TB := tbI 1018 rfl rfl
set_option maxRecDepth 100000 in
theorem tb_1019 : (Jvm.Cond.code ({ cls := "NameSeekerModel", name := "count", desc := "(I)I" } : Jvm.MethodName) prog_12_method_51_code (2 : Nat) (Option.some Jvm.ClassFile.FieldType.int)) ∈ TB := tbI 1019 rfl rfl
