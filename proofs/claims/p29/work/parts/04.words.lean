set_option maxRecDepth 100000 in
theorem tb_0 : (Cond.selects "NameSeeker" (⟨"NameSeeker", "layText", "()V"⟩ : MethodName) (⟨"NameSeeker", "layText", "()V"⟩ : MethodName)) ∈ TB := tbI 0 rfl rfl
set_option maxRecDepth 100000 in
theorem tb_1 : (Cond.selects "NameSeeker" (⟨"NameSeeker", "readItem", "(I)V"⟩ : MethodName) (⟨"NameSeeker", "readItem", "(I)V"⟩ : MethodName)) ∈ TB := tbI 1 rfl rfl
set_option maxRecDepth 100000 in
theorem tb_2 : (Cond.selects "NameSeeker$Name" (⟨"NameSeeker$Name", "wouldBegin", "(C)Z"⟩ : MethodName) (⟨"NameSeeker$Name", "wouldBegin", "(C)Z"⟩ : MethodName)) ∈ TB := tbI 2 rfl rfl
set_option maxRecDepth 100000 in
theorem tb_3 : (Cond.selects "NameSeeker$Text" (⟨"NameSeeker$Text", "behindName", "(I)I"⟩ : MethodName) (⟨"NameSeeker$Text", "behindName", "(I)I"⟩ : MethodName)) ∈ TB := tbI 3 rfl rfl
set_option maxRecDepth 100000 in
theorem tb_4 : (Cond.selects "NameSeeker$Text" (⟨"NameSeeker$Text", "isFigure", "(II)Z"⟩ : MethodName) (⟨"NameSeeker$Text", "isFigure", "(II)Z"⟩ : MethodName)) ∈ TB := tbI 4 rfl rfl
set_option maxRecDepth 100000 in
theorem tb_5 : (Cond.selects "NameSeeker$Text" (⟨"NameSeeker$Text", "behindWorths", "(I)I"⟩ : MethodName) (⟨"NameSeeker$Text", "behindWorths", "(I)I"⟩ : MethodName)) ∈ TB := tbI 5 rfl rfl
set_option maxRecDepth 100000 in
theorem tb_6 : (Cond.selects "NameSeeker" (⟨"NameSeeker", "seekScore", "(LNameSeeker$Name;)I"⟩ : MethodName) (⟨"NameSeeker", "seekScore", "(LNameSeeker$Name;)I"⟩ : MethodName)) ∈ TB := tbI 6 rfl rfl
set_option maxRecDepth 100000 in
theorem tb_7 : (Cond.selects "NameSeeker$Laying" (⟨"NameSeeker$Laying", "workOutLetter", "(LNameSeeker$Name;LNameSeeker$Word;ILNameSeeker$Scales;)V"⟩ : MethodName) (⟨"NameSeeker$Laying", "workOutLetter", "(LNameSeeker$Name;LNameSeeker$Word;ILNameSeeker$Scales;)V"⟩ : MethodName)) ∈ TB := tbI 7 rfl rfl
set_option maxRecDepth 100000 in
theorem tb_8 : (Cond.selects "NameSeeker$Laying" (⟨"NameSeeker$Laying", "workOutNext", "(LNameSeeker$Name;IILNameSeeker$Scales;)V"⟩ : MethodName) (⟨"NameSeeker$Laying", "workOutNext", "(LNameSeeker$Name;IILNameSeeker$Scales;)V"⟩ : MethodName)) ∈ TB := tbI 8 rfl rfl
set_option maxRecDepth 100000 in
theorem tb_9 : (Cond.selects "NameSeeker" (⟨"NameSeeker", "seekScores", "()V"⟩ : MethodName) (⟨"NameSeeker", "seekScores", "()V"⟩ : MethodName)) ∈ TB := tbI 9 rfl rfl
set_option maxRecDepth 100000 in
theorem tb_10 : (Cond.selects "NameSeeker$Ranking" (⟨"NameSeeker$Ranking", "insert", "(LNameSeeker$Lot;I)V"⟩ : MethodName) (⟨"NameSeeker$Ranking", "insert", "(LNameSeeker$Lot;I)V"⟩ : MethodName)) ∈ TB := tbI 10 rfl rfl
set_option maxRecDepth 100000 in
theorem tb_11 : (Cond.selects "NameSeeker$Ranking" (⟨"NameSeeker$Ranking", "isAhead", "(LNameSeeker$Lot;II)Z"⟩ : MethodName) (⟨"NameSeeker$Ranking", "isAhead", "(LNameSeeker$Lot;II)Z"⟩ : MethodName)) ∈ TB := tbI 11 rfl rfl
set_option maxRecDepth 100000 in
theorem tb_12 : (Cond.selects "NameSeeker" (⟨"NameSeeker", "isFirstBy", "(III)Z"⟩ : MethodName) (⟨"NameSeeker", "isFirstBy", "(III)Z"⟩ : MethodName)) ∈ TB := tbI 12 rfl rfl
set_option maxRecDepth 100000 in
theorem tb_13 : (Jvm.Cond.initialized "NameSeekerLaw") ∈ TB := tbI 13 rfl rfl
set_option maxRecDepth 100000 in
theorem tb_14 : (Jvm.Cond.initialized "NameSeeker") ∈ TB := tbI 14 rfl rfl
set_option maxRecDepth 100000 in
theorem tb_15 : (Jvm.Cond.initialized "NameSeeker$Text") ∈ TB := tbI 15 rfl rfl
set_option maxRecDepth 100000 in
theorem tb_16 : (Jvm.Cond.initialized "NameSeeker$Lot") ∈ TB := tbI 16 rfl rfl
set_option maxRecDepth 100000 in
theorem tb_17 : (Jvm.Cond.initialized "NameSeeker$Name") ∈ TB := tbI 17 rfl rfl
set_option maxRecDepth 100000 in
theorem tb_18 : (Jvm.Cond.initialized "NameSeeker$Scales") ∈ TB := tbI 18 rfl rfl
set_option maxRecDepth 100000 in
theorem tb_19 : (Jvm.Cond.initialized "NameSeeker$Word") ∈ TB := tbI 19 rfl rfl
set_option maxRecDepth 100000 in
theorem tb_20 : (Jvm.Cond.initialized "NameSeeker$Laying") ∈ TB := tbI 20 rfl rfl
set_option maxRecDepth 100000 in
theorem tb_21 : (Jvm.Cond.initialized "NameSeeker$Known") ∈ TB := tbI 21 rfl rfl
set_option maxRecDepth 100000 in
theorem tb_22 : (Jvm.Cond.initialized "NameSeeker$Asked") ∈ TB := tbI 22 rfl rfl
set_option maxRecDepth 100000 in
theorem tb_23 : (Jvm.Cond.initialized "NameSeeker$Ranking") ∈ TB := tbI 23 rfl rfl
set_option maxRecDepth 100000 in
theorem tb_29 : (Jvm.Cond.classLink "NameSeekerLaw" (20 : Nat) "NameSeeker") ∈ TB := tbI 29 rfl rfl
set_option maxRecDepth 100000 in
theorem tb_30 : (Jvm.Cond.instantiable "NameSeeker" (14 : Nat)) ∈ TB := tbI 30 rfl rfl
set_option maxRecDepth 100000 in
theorem tb_31 : (Jvm.Cond.methodLink "NameSeekerLaw" (107 : Nat) ({ cls := "NameSeeker", name := "<init>", desc := "()V" } : Jvm.MethodName)) ∈ TB := tbI 31 rfl rfl
set_option maxRecDepth 100000 in
theorem tb_32 : (Jvm.Cond.instanceMethod ({ cls := "NameSeeker", name := "<init>", desc := "()V" } : Jvm.MethodName)) ∈ TB := tbI 32 rfl rfl
set_option maxRecDepth 100000 in
theorem tb_33 : (Jvm.Cond.code ({ cls := "NameSeeker", name := "<init>", desc := "()V" } : Jvm.MethodName) prog_1_method_1_code (2 : Nat) (Option.none : Option Jvm.ClassFile.FieldType)) ∈ TB := tbI 33 rfl rfl
set_option maxRecDepth 100000 in
theorem tb_37 : (Jvm.Cond.classLink "NameSeeker" (7 : Nat) "NameSeeker$Text") ∈ TB := tbI 37 rfl rfl
set_option maxRecDepth 100000 in
theorem tb_38 : (Jvm.Cond.instantiable "NameSeeker$Text" (2 : Nat)) ∈ TB := tbI 38 rfl rfl
set_option maxRecDepth 100000 in
theorem tb_40 : (Jvm.Cond.instanceMethod ({ cls := "NameSeeker$Text", name := "<init>", desc := "()V" } : Jvm.MethodName)) ∈ TB := tbI 40 rfl rfl
set_option maxRecDepth 100000 in
theorem tb_41 : (Jvm.Cond.code ({ cls := "NameSeeker$Text", name := "<init>", desc := "()V" } : Jvm.MethodName) prog_9_method_1_code (1 : Nat) (Option.none : Option Jvm.ClassFile.FieldType)) ∈ TB := tbI 41 rfl rfl
set_option maxRecDepth 100000 in
theorem tb_43 : (Jvm.Cond.fieldLink "NameSeeker$Text" (9 : Nat) "NameSeeker$Text" "letters" "[C") ∈ TB := tbI 43 rfl rfl
set_option maxRecDepth 100000 in
theorem tb_44 : (Jvm.Cond.fieldLink "NameSeeker$Text" (15 : Nat) "NameSeeker$Text" "size" "I") ∈ TB := tbI 44 rfl rfl
set_option maxRecDepth 100000 in
theorem tb_45 : (Jvm.Cond.fieldLink "NameSeeker" (107 : Nat) "NameSeeker$Text" "size" "I") ∈ TB := tbI 45 rfl rfl
set_option maxRecDepth 100000 in
theorem tb_51 : (Jvm.Cond.arrayClass Jvm.ClassFile.FieldType.char) ∈ TB := tbI 51 rfl rfl
set_option maxRecDepth 100000 in
theorem tb_52 : (Jvm.Cond.classLink "NameSeeker" (16 : Nat) "NameSeeker$Lot") ∈ TB := tbI 52 rfl rfl
set_option maxRecDepth 100000 in
theorem tb_53 : (Jvm.Cond.instantiable "NameSeeker$Lot" (3 : Nat)) ∈ TB := tbI 53 rfl rfl
set_option maxRecDepth 100000 in
theorem tb_54 : (Jvm.Cond.methodLink "NameSeeker" (18 : Nat) ({ cls := "NameSeeker$Lot", name := "<init>", desc := "()V" } : Jvm.MethodName)) ∈ TB := tbI 54 rfl rfl
set_option maxRecDepth 100000 in
theorem tb_55 : (Jvm.Cond.instanceMethod ({ cls := "NameSeeker$Lot", name := "<init>", desc := "()V" } : Jvm.MethodName)) ∈ TB := tbI 55 rfl rfl
set_option maxRecDepth 100000 in
theorem tb_56 : (Jvm.Cond.code ({ cls := "NameSeeker$Lot", name := "<init>", desc := "()V" } : Jvm.MethodName) prog_5_method_1_code (2 : Nat) (Option.none : Option Jvm.ClassFile.FieldType)) ∈ TB := tbI 56 rfl rfl
set_option maxRecDepth 100000 in
theorem tb_58 : (Jvm.Cond.classLink "NameSeeker$Lot" (9 : Nat) "NameSeeker$Name") ∈ TB := tbI 58 rfl rfl
set_option maxRecDepth 100000 in
theorem tb_60 : (Jvm.Cond.instantiable "NameSeeker$Name" (7 : Nat)) ∈ TB := tbI 60 rfl rfl
set_option maxRecDepth 100000 in
theorem tb_62 : (Jvm.Cond.instanceMethod ({ cls := "NameSeeker$Name", name := "<init>", desc := "()V" } : Jvm.MethodName)) ∈ TB := tbI 62 rfl rfl
set_option maxRecDepth 100000 in
theorem tb_63 : (Jvm.Cond.code ({ cls := "NameSeeker$Name", name := "<init>", desc := "()V" } : Jvm.MethodName) prog_6_method_1_code (1 : Nat) (Option.none : Option Jvm.ClassFile.FieldType)) ∈ TB := tbI 63 rfl rfl
set_option maxRecDepth 100000 in
theorem tb_65 : (Jvm.Cond.fieldLink "NameSeeker$Name" (9 : Nat) "NameSeeker$Name" "signs" "[C") ∈ TB := tbI 65 rfl rfl
set_option maxRecDepth 100000 in
theorem tb_66 : (Jvm.Cond.fieldLink "NameSeeker$Name" (15 : Nat) "NameSeeker$Name" "size" "I") ∈ TB := tbI 66 rfl rfl
set_option maxRecDepth 100000 in
theorem tb_67 : (Jvm.Cond.fieldLink "NameSeeker$Laying" (36 : Nat) "NameSeeker$Name" "size" "I") ∈ TB := tbI 67 rfl rfl
set_option maxRecDepth 100000 in
theorem tb_68 : (Jvm.Cond.fieldLink "NameSeeker$Ranking" (42 : Nat) "NameSeeker$Name" "size" "I") ∈ TB := tbI 68 rfl rfl
set_option maxRecDepth 100000 in
theorem tb_69 : (Jvm.Cond.fieldLink "NameSeeker" (131 : Nat) "NameSeeker$Name" "size" "I") ∈ TB := tbI 69 rfl rfl
set_option maxRecDepth 100000 in
theorem tb_70 : (Jvm.Cond.fieldLink "NameSeeker$Name" (19 : Nat) "NameSeeker$Name" "kind" "I") ∈ TB := tbI 70 rfl rfl
set_option maxRecDepth 100000 in
theorem tb_71 : (Jvm.Cond.fieldLink "NameSeeker$Scales" (30 : Nat) "NameSeeker$Name" "kind" "I") ∈ TB := tbI 71 rfl rfl
set_option maxRecDepth 100000 in
theorem tb_72 : (Jvm.Cond.fieldLink "NameSeeker" (126 : Nat) "NameSeeker$Name" "kind" "I") ∈ TB := tbI 72 rfl rfl
set_option maxRecDepth 100000 in
theorem tb_73 : (Jvm.Cond.fieldLink "NameSeeker$Name" (22 : Nat) "NameSeeker$Name" "id" "I") ∈ TB := tbI 73 rfl rfl
set_option maxRecDepth 100000 in
theorem tb_74 : (Jvm.Cond.fieldLink "NameSeeker" (132 : Nat) "NameSeeker$Name" "id" "I") ∈ TB := tbI 74 rfl rfl
set_option maxRecDepth 100000 in
theorem tb_75 : (Jvm.Cond.fieldLink "NameSeeker$Name" (25 : Nat) "NameSeeker$Name" "picked" "I") ∈ TB := tbI 75 rfl rfl
set_option maxRecDepth 100000 in
theorem tb_76 : (Jvm.Cond.fieldLink "NameSeeker$Ranking" (37 : Nat) "NameSeeker$Name" "picked" "I") ∈ TB := tbI 76 rfl rfl
set_option maxRecDepth 100000 in
theorem tb_77 : (Jvm.Cond.fieldLink "NameSeeker" (135 : Nat) "NameSeeker$Name" "picked" "I") ∈ TB := tbI 77 rfl rfl
set_option maxRecDepth 100000 in
theorem tb_78 : (Jvm.Cond.fieldLink "NameSeeker$Name" (28 : Nat) "NameSeeker$Name" "beginnings" "I") ∈ TB := tbI 78 rfl rfl
set_option maxRecDepth 100000 in
theorem tb_79 : (Jvm.Cond.fieldLink "NameSeeker$Scales" (25 : Nat) "NameSeeker$Name" "beginnings" "I") ∈ TB := tbI 79 rfl rfl
set_option maxRecDepth 100000 in
theorem tb_80 : (Jvm.Cond.fieldLink "NameSeeker" (138 : Nat) "NameSeeker$Name" "beginnings" "I") ∈ TB := tbI 80 rfl rfl
set_option maxRecDepth 100000 in
theorem tb_81 : (Jvm.Cond.fieldLink "NameSeeker$Name" (31 : Nat) "NameSeeker$Name" "letterBits" "I") ∈ TB := tbI 81 rfl rfl
set_option maxRecDepth 100000 in
theorem tb_97 : (Jvm.Cond.fieldLink "NameSeeker$Lot" (11 : Nat) "NameSeeker$Lot" "names" "[LNameSeeker$Name;") ∈ TB := tbI 97 rfl rfl
set_option maxRecDepth 100000 in
theorem tb_98 : (Jvm.Cond.fieldLink "NameSeeker$Ranking" (33 : Nat) "NameSeeker$Lot" "names" "[LNameSeeker$Name;") ∈ TB := tbI 98 rfl rfl
set_option maxRecDepth 100000 in
theorem tb_99 : (Jvm.Cond.fieldLink "NameSeeker" (122 : Nat) "NameSeeker$Lot" "names" "[LNameSeeker$Name;") ∈ TB := tbI 99 rfl rfl
set_option maxRecDepth 100000 in
theorem tb_100 : (Jvm.Cond.fieldLink "NameSeeker$Lot" (17 : Nat) "NameSeeker$Lot" "size" "I") ∈ TB := tbI 100 rfl rfl
set_option maxRecDepth 100000 in
theorem tb_101 : (Jvm.Cond.fieldLink "NameSeeker$Ranking" (22 : Nat) "NameSeeker$Lot" "size" "I") ∈ TB := tbI 101 rfl rfl
set_option maxRecDepth 100000 in
theorem tb_102 : (Jvm.Cond.fieldLink "NameSeeker" (117 : Nat) "NameSeeker$Lot" "size" "I") ∈ TB := tbI 102 rfl rfl
set_option maxRecDepth 100000 in
theorem tb_103 : (Jvm.Cond.fieldLink "NameSeeker$Lot" (21 : Nat) "NameSeeker$Lot" "laid" "I") ∈ TB := tbI 103 rfl rfl
set_option maxRecDepth 100000 in
theorem tb_104 : (Jvm.Cond.fieldLink "NameSeeker" (298 : Nat) "NameSeeker$Lot" "laid" "I") ∈ TB := tbI 104 rfl rfl
set_option maxRecDepth 100000 in
theorem tb_112 : (Jvm.Cond.classLink "NameSeeker" (23 : Nat) "NameSeeker$Scales") ∈ TB := tbI 112 rfl rfl
set_option maxRecDepth 100000 in
theorem tb_113 : (Jvm.Cond.instantiable "NameSeeker$Scales" (3 : Nat)) ∈ TB := tbI 113 rfl rfl
set_option maxRecDepth 100000 in
theorem tb_115 : (Jvm.Cond.instanceMethod ({ cls := "NameSeeker$Scales", name := "<init>", desc := "()V" } : Jvm.MethodName)) ∈ TB := tbI 115 rfl rfl
set_option maxRecDepth 100000 in
theorem tb_116 : (Jvm.Cond.code ({ cls := "NameSeeker$Scales", name := "<init>", desc := "()V" } : Jvm.MethodName) prog_8_method_1_code (1 : Nat) (Option.none : Option Jvm.ClassFile.FieldType)) ∈ TB := tbI 116 rfl rfl
set_option maxRecDepth 100000 in
theorem tb_118 : (Jvm.Cond.fieldLink "NameSeeker$Scales" (9 : Nat) "NameSeeker$Scales" "beginning" "I") ∈ TB := tbI 118 rfl rfl
set_option maxRecDepth 100000 in
theorem tb_119 : (Jvm.Cond.fieldLink "NameSeeker" (289 : Nat) "NameSeeker$Scales" "beginning" "I") ∈ TB := tbI 119 rfl rfl
set_option maxRecDepth 100000 in
theorem tb_120 : (Jvm.Cond.fieldLink "NameSeeker$Scales" (15 : Nat) "NameSeeker$Scales" "row" "I") ∈ TB := tbI 120 rfl rfl
set_option maxRecDepth 100000 in
theorem tb_121 : (Jvm.Cond.fieldLink "NameSeeker" (292 : Nat) "NameSeeker$Scales" "row" "I") ∈ TB := tbI 121 rfl rfl
set_option maxRecDepth 100000 in
theorem tb_122 : (Jvm.Cond.fieldLink "NameSeeker$Scales" (18 : Nat) "NameSeeker$Scales" "gap" "I") ∈ TB := tbI 122 rfl rfl
set_option maxRecDepth 100000 in
theorem tb_123 : (Jvm.Cond.fieldLink "NameSeeker" (295 : Nat) "NameSeeker$Scales" "gap" "I") ∈ TB := tbI 123 rfl rfl
set_option maxRecDepth 100000 in
theorem tb_131 : (Jvm.Cond.classLink "NameSeeker" (30 : Nat) "NameSeeker$Word") ∈ TB := tbI 131 rfl rfl
set_option maxRecDepth 100000 in
theorem tb_132 : (Jvm.Cond.instantiable "NameSeeker$Word" (2 : Nat)) ∈ TB := tbI 132 rfl rfl
set_option maxRecDepth 100000 in
theorem tb_134 : (Jvm.Cond.instanceMethod ({ cls := "NameSeeker$Word", name := "<init>", desc := "()V" } : Jvm.MethodName)) ∈ TB := tbI 134 rfl rfl
set_option maxRecDepth 100000 in
theorem tb_135 : (Jvm.Cond.code ({ cls := "NameSeeker$Word", name := "<init>", desc := "()V" } : Jvm.MethodName) prog_10_method_1_code (1 : Nat) (Option.none : Option Jvm.ClassFile.FieldType)) ∈ TB := tbI 135 rfl rfl
set_option maxRecDepth 100000 in
theorem tb_137 : (Jvm.Cond.fieldLink "NameSeeker$Word" (9 : Nat) "NameSeeker$Word" "letters" "[C") ∈ TB := tbI 137 rfl rfl
set_option maxRecDepth 100000 in
theorem tb_138 : (Jvm.Cond.fieldLink "NameSeeker$Laying" (39 : Nat) "NameSeeker$Word" "letters" "[C") ∈ TB := tbI 138 rfl rfl
set_option maxRecDepth 100000 in
theorem tb_139 : (Jvm.Cond.fieldLink "NameSeeker" (190 : Nat) "NameSeeker$Word" "letters" "[C") ∈ TB := tbI 139 rfl rfl
set_option maxRecDepth 100000 in
theorem tb_140 : (Jvm.Cond.fieldLink "NameSeeker$Word" (15 : Nat) "NameSeeker$Word" "size" "I") ∈ TB := tbI 140 rfl rfl
set_option maxRecDepth 100000 in
theorem tb_141 : (Jvm.Cond.fieldLink "NameSeeker$Laying" (27 : Nat) "NameSeeker$Word" "size" "I") ∈ TB := tbI 141 rfl rfl
set_option maxRecDepth 100000 in
theorem tb_142 : (Jvm.Cond.fieldLink "NameSeeker" (182 : Nat) "NameSeeker$Word" "size" "I") ∈ TB := tbI 142 rfl rfl
set_option maxRecDepth 100000 in
theorem tb_149 : (Jvm.Cond.classLink "NameSeeker" (44 : Nat) "NameSeeker$Laying") ∈ TB := tbI 149 rfl rfl
set_option maxRecDepth 100000 in
theorem tb_150 : (Jvm.Cond.instantiable "NameSeeker$Laying" (4 : Nat)) ∈ TB := tbI 150 rfl rfl
set_option maxRecDepth 100000 in
theorem tb_152 : (Jvm.Cond.instanceMethod ({ cls := "NameSeeker$Laying", name := "<init>", desc := "()V" } : Jvm.MethodName)) ∈ TB := tbI 152 rfl rfl
set_option maxRecDepth 100000 in
theorem tb_153 : (Jvm.Cond.code ({ cls := "NameSeeker$Laying", name := "<init>", desc := "()V" } : Jvm.MethodName) prog_4_method_1_code (1 : Nat) (Option.none : Option Jvm.ClassFile.FieldType)) ∈ TB := tbI 153 rfl rfl
set_option maxRecDepth 100000 in
theorem tb_155 : (Jvm.Cond.classLink "NameSeeker$Laying" (9 : Nat) "[[I") ∈ TB := tbI 155 rfl rfl
set_option maxRecDepth 100000 in
theorem tb_157 : (Jvm.Cond.fieldLink "NameSeeker$Laying" (11 : Nat) "NameSeeker$Laying" "tails" "[[I") ∈ TB := tbI 157 rfl rfl
set_option maxRecDepth 100000 in
theorem tb_158 : (Jvm.Cond.fieldLink "NameSeeker$Laying" (16 : Nat) "NameSeeker$Laying" "nexts" "[[I") ∈ TB := tbI 158 rfl rfl
set_option maxRecDepth 100000 in
theorem tb_159 : (Jvm.Cond.fieldLink "NameSeeker$Laying" (19 : Nat) "NameSeeker$Laying" "counts" "[I") ∈ TB := tbI 159 rfl rfl
set_option maxRecDepth 100000 in
theorem tb_160 : (Jvm.Cond.fieldLink "NameSeeker$Laying" (23 : Nat) "NameSeeker$Laying" "bestFirst" "I") ∈ TB := tbI 160 rfl rfl
set_option maxRecDepth 100000 in
theorem tb_170 : (Jvm.Cond.arrayClass Jvm.ClassFile.FieldType.int) ∈ TB := tbI 170 rfl rfl
set_option maxRecDepth 100000 in
theorem tb_171 : (Jvm.Cond.classLink "NameSeeker" (51 : Nat) "NameSeeker$Known") ∈ TB := tbI 171 rfl rfl
set_option maxRecDepth 100000 in
theorem tb_172 : (Jvm.Cond.instantiable "NameSeeker$Known" (6 : Nat)) ∈ TB := tbI 172 rfl rfl
set_option maxRecDepth 100000 in
theorem tb_174 : (Jvm.Cond.instanceMethod ({ cls := "NameSeeker$Known", name := "<init>", desc := "()V" } : Jvm.MethodName)) ∈ TB := tbI 174 rfl rfl
set_option maxRecDepth 100000 in
theorem tb_175 : (Jvm.Cond.code ({ cls := "NameSeeker$Known", name := "<init>", desc := "()V" } : Jvm.MethodName) prog_3_method_1_code (1 : Nat) (Option.none : Option Jvm.ClassFile.FieldType)) ∈ TB := tbI 175 rfl rfl
set_option maxRecDepth 100000 in
theorem tb_177 : (Jvm.Cond.fieldLink "NameSeeker$Known" (9 : Nat) "NameSeeker$Known" "ids" "[I") ∈ TB := tbI 177 rfl rfl
set_option maxRecDepth 100000 in
theorem tb_178 : (Jvm.Cond.fieldLink "NameSeeker$Known" (15 : Nat) "NameSeeker$Known" "codes" "[J") ∈ TB := tbI 178 rfl rfl
set_option maxRecDepth 100000 in
theorem tb_179 : (Jvm.Cond.fieldLink "NameSeeker$Known" (19 : Nat) "NameSeeker$Known" "ages" "[I") ∈ TB := tbI 179 rfl rfl
set_option maxRecDepth 100000 in
theorem tb_180 : (Jvm.Cond.fieldLink "NameSeeker$Known" (22 : Nat) "NameSeeker$Known" "scores" "[I") ∈ TB := tbI 180 rfl rfl
set_option maxRecDepth 100000 in
theorem tb_181 : (Jvm.Cond.fieldLink "NameSeeker" (270 : Nat) "NameSeeker$Known" "scores" "[I") ∈ TB := tbI 181 rfl rfl
set_option maxRecDepth 100000 in
theorem tb_182 : (Jvm.Cond.fieldLink "NameSeeker$Known" (25 : Nat) "NameSeeker$Known" "hits" "I") ∈ TB := tbI 182 rfl rfl
set_option maxRecDepth 100000 in
theorem tb_183 : (Jvm.Cond.fieldLink "NameSeeker" (267 : Nat) "NameSeeker$Known" "hits" "I") ∈ TB := tbI 183 rfl rfl
set_option maxRecDepth 100000 in
theorem tb_184 : (Jvm.Cond.fieldLink "NameSeeker$Known" (29 : Nat) "NameSeeker$Known" "misses" "I") ∈ TB := tbI 184 rfl rfl
set_option maxRecDepth 100000 in
theorem tb_185 : (Jvm.Cond.fieldLink "NameSeeker" (273 : Nat) "NameSeeker$Known" "misses" "I") ∈ TB := tbI 185 rfl rfl
set_option maxRecDepth 100000 in
theorem tb_199 : (Jvm.Cond.arrayClass Jvm.ClassFile.FieldType.long) ∈ TB := tbI 199 rfl rfl
set_option maxRecDepth 100000 in
theorem tb_200 : (Jvm.Cond.classLink "NameSeeker" (58 : Nat) "NameSeeker$Asked") ∈ TB := tbI 200 rfl rfl
set_option maxRecDepth 100000 in
theorem tb_201 : (Jvm.Cond.instantiable "NameSeeker$Asked" (2 : Nat)) ∈ TB := tbI 201 rfl rfl
set_option maxRecDepth 100000 in
theorem tb_203 : (Jvm.Cond.instanceMethod ({ cls := "NameSeeker$Asked", name := "<init>", desc := "()V" } : Jvm.MethodName)) ∈ TB := tbI 203 rfl rfl
set_option maxRecDepth 100000 in
theorem tb_204 : (Jvm.Cond.code ({ cls := "NameSeeker$Asked", name := "<init>", desc := "()V" } : Jvm.MethodName) prog_2_method_1_code (1 : Nat) (Option.none : Option Jvm.ClassFile.FieldType)) ∈ TB := tbI 204 rfl rfl
set_option maxRecDepth 100000 in
theorem tb_206 : (Jvm.Cond.fieldLink "NameSeeker$Asked" (9 : Nat) "NameSeeker$Asked" "codes" "[J") ∈ TB := tbI 206 rfl rfl
set_option maxRecDepth 100000 in
theorem tb_207 : (Jvm.Cond.fieldLink "NameSeeker" (242 : Nat) "NameSeeker$Asked" "codes" "[J") ∈ TB := tbI 207 rfl rfl
set_option maxRecDepth 100000 in
theorem tb_208 : (Jvm.Cond.fieldLink "NameSeeker$Asked" (15 : Nat) "NameSeeker$Asked" "size" "I") ∈ TB := tbI 208 rfl rfl
set_option maxRecDepth 100000 in
theorem tb_209 : (Jvm.Cond.fieldLink "NameSeeker" (241 : Nat) "NameSeeker$Asked" "size" "I") ∈ TB := tbI 209 rfl rfl
set_option maxRecDepth 100000 in
theorem tb_215 : (Jvm.Cond.classLink "NameSeeker" (65 : Nat) "NameSeeker$Ranking") ∈ TB := tbI 215 rfl rfl
set_option maxRecDepth 100000 in
theorem tb_216 : (Jvm.Cond.instantiable "NameSeeker$Ranking" (3 : Nat)) ∈ TB := tbI 216 rfl rfl
set_option maxRecDepth 100000 in
theorem tb_218 : (Jvm.Cond.instanceMethod ({ cls := "NameSeeker$Ranking", name := "<init>", desc := "()V" } : Jvm.MethodName)) ∈ TB := tbI 218 rfl rfl
set_option maxRecDepth 100000 in
theorem tb_219 : (Jvm.Cond.code ({ cls := "NameSeeker$Ranking", name := "<init>", desc := "()V" } : Jvm.MethodName) prog_7_method_1_code (1 : Nat) (Option.none : Option Jvm.ClassFile.FieldType)) ∈ TB := tbI 219 rfl rfl
set_option maxRecDepth 100000 in
theorem tb_221 : (Jvm.Cond.fieldLink "NameSeeker$Ranking" (9 : Nat) "NameSeeker$Ranking" "scores" "[I") ∈ TB := tbI 221 rfl rfl
set_option maxRecDepth 100000 in
theorem tb_222 : (Jvm.Cond.fieldLink "NameSeeker" (280 : Nat) "NameSeeker$Ranking" "scores" "[I") ∈ TB := tbI 222 rfl rfl
set_option maxRecDepth 100000 in
theorem tb_223 : (Jvm.Cond.fieldLink "NameSeeker$Ranking" (15 : Nat) "NameSeeker$Ranking" "numbers" "[I") ∈ TB := tbI 223 rfl rfl
set_option maxRecDepth 100000 in
theorem tb_224 : (Jvm.Cond.fieldLink "NameSeeker" (222 : Nat) "NameSeeker$Ranking" "numbers" "[I") ∈ TB := tbI 224 rfl rfl
set_option maxRecDepth 100000 in
theorem tb_225 : (Jvm.Cond.fieldLink "NameSeeker$Ranking" (18 : Nat) "NameSeeker$Ranking" "size" "I") ∈ TB := tbI 225 rfl rfl
set_option maxRecDepth 100000 in
theorem tb_226 : (Jvm.Cond.fieldLink "NameSeeker" (221 : Nat) "NameSeeker$Ranking" "size" "I") ∈ TB := tbI 226 rfl rfl
set_option maxRecDepth 100000 in
theorem tb_283 : (Jvm.Cond.methodLink "NameSeeker" (97 : Nat) ({ cls := "NameSeeker$Text", name := "append", desc := "(C)V" } : Jvm.MethodName)) ∈ TB := tbI 283 rfl rfl
set_option maxRecDepth 100000 in
theorem tb_284 : (Jvm.Cond.instanceMethod ({ cls := "NameSeeker$Text", name := "append", desc := "(C)V" } : Jvm.MethodName)) ∈ TB := tbI 284 rfl rfl
set_option maxRecDepth 100000 in
theorem tb_285 : (Jvm.Cond.selects "NameSeeker$Text" ({ cls := "NameSeeker$Text", name := "append", desc := "(C)V" } : Jvm.MethodName) ({ cls := "NameSeeker$Text", name := "append", desc := "(C)V" } : Jvm.MethodName)) ∈ TB := tbI 285 rfl rfl
set_option maxRecDepth 100000 in
theorem tb_286 : (Jvm.Cond.code ({ cls := "NameSeeker$Text", name := "append", desc := "(C)V" } : Jvm.MethodName) prog_9_method_2_code (2 : Nat) (Option.none : Option Jvm.ClassFile.FieldType)) ∈ TB := tbI 286 rfl rfl
set_option maxRecDepth 100000 in
theorem tb_287 : (Jvm.Cond.methodLink "NameSeeker" (101 : Nat) ({ cls := "NameSeeker", name := "layText", desc := "()V" } : Jvm.MethodName)) ∈ TB := tbI 287 rfl rfl
set_option maxRecDepth 100000 in
theorem tb_289 : (Jvm.Cond.instanceMethod ({ cls := "NameSeeker", name := "layText", desc := "()V" } : Jvm.MethodName)) ∈ TB := tbI 289 rfl rfl
set_option maxRecDepth 100000 in
theorem tb_290 : (Jvm.Cond.code ({ cls := "NameSeeker", name := "layText", desc := "()V" } : Jvm.MethodName) prog_1_method_8_code (3 : Nat) (Option.none : Option Jvm.ClassFile.FieldType)) ∈ TB := tbI 290 rfl rfl
set_option maxRecDepth 100000 in
theorem tb_291 : (Jvm.Cond.methodLink "NameSeeker" (145 : Nat) ({ cls := "NameSeeker$Lot", name := "clear", desc := "()V" } : Jvm.MethodName)) ∈ TB := tbI 291 rfl rfl
set_option maxRecDepth 100000 in
theorem tb_292 : (Jvm.Cond.instanceMethod ({ cls := "NameSeeker$Lot", name := "clear", desc := "()V" } : Jvm.MethodName)) ∈ TB := tbI 292 rfl rfl
set_option maxRecDepth 100000 in
theorem tb_293 : (Jvm.Cond.selects "NameSeeker$Lot" ({ cls := "NameSeeker$Lot", name := "clear", desc := "()V" } : Jvm.MethodName) ({ cls := "NameSeeker$Lot", name := "clear", desc := "()V" } : Jvm.MethodName)) ∈ TB := tbI 293 rfl rfl
set_option maxRecDepth 100000 in
theorem tb_294 : (Jvm.Cond.code ({ cls := "NameSeeker$Lot", name := "clear", desc := "()V" } : Jvm.MethodName) prog_5_method_3_code (1 : Nat) (Option.none : Option Jvm.ClassFile.FieldType)) ∈ TB := tbI 294 rfl rfl
set_option maxRecDepth 100000 in
theorem tb_295 : (Jvm.Cond.methodLink "NameSeeker" (147 : Nat) ({ cls := "NameSeeker$Scales", name := "setDefaults", desc := "()V" } : Jvm.MethodName)) ∈ TB := tbI 295 rfl rfl
set_option maxRecDepth 100000 in
theorem tb_296 : (Jvm.Cond.instanceMethod ({ cls := "NameSeeker$Scales", name := "setDefaults", desc := "()V" } : Jvm.MethodName)) ∈ TB := tbI 296 rfl rfl
set_option maxRecDepth 100000 in
theorem tb_297 : (Jvm.Cond.selects "NameSeeker$Scales" ({ cls := "NameSeeker$Scales", name := "setDefaults", desc := "()V" } : Jvm.MethodName) ({ cls := "NameSeeker$Scales", name := "setDefaults", desc := "()V" } : Jvm.MethodName)) ∈ TB := tbI 297 rfl rfl
set_option maxRecDepth 100000 in
theorem tb_298 : (Jvm.Cond.code ({ cls := "NameSeeker$Scales", name := "setDefaults", desc := "()V" } : Jvm.MethodName) prog_8_method_3_code (1 : Nat) (Option.none : Option Jvm.ClassFile.FieldType)) ∈ TB := tbI 298 rfl rfl
set_option maxRecDepth 100000 in
theorem tb_299 : (Jvm.Cond.methodLink "NameSeeker$Scales" (21 : Nat) ({ cls := "NameSeeker$Scales", name := "set", desc := "(III)V" } : Jvm.MethodName)) ∈ TB := tbI 299 rfl rfl
set_option maxRecDepth 100000 in
theorem tb_300 : (Jvm.Cond.instanceMethod ({ cls := "NameSeeker$Scales", name := "set", desc := "(III)V" } : Jvm.MethodName)) ∈ TB := tbI 300 rfl rfl
set_option maxRecDepth 100000 in
theorem tb_301 : (Jvm.Cond.selects "NameSeeker$Scales" ({ cls := "NameSeeker$Scales", name := "set", desc := "(III)V" } : Jvm.MethodName) ({ cls := "NameSeeker$Scales", name := "set", desc := "(III)V" } : Jvm.MethodName)) ∈ TB := tbI 301 rfl rfl
set_option maxRecDepth 100000 in
theorem tb_302 : (Jvm.Cond.code ({ cls := "NameSeeker$Scales", name := "set", desc := "(III)V" } : Jvm.MethodName) prog_8_method_4_code (4 : Nat) (Option.none : Option Jvm.ClassFile.FieldType)) ∈ TB := tbI 302 rfl rfl
set_option maxRecDepth 100000 in
theorem tb_303 : (Jvm.Cond.methodLink "NameSeeker" (150 : Nat) ({ cls := "NameSeeker", name := "readItem", desc := "(I)V" } : Jvm.MethodName)) ∈ TB := tbI 303 rfl rfl
set_option maxRecDepth 100000 in
theorem tb_305 : (Jvm.Cond.instanceMethod ({ cls := "NameSeeker", name := "readItem", desc := "(I)V" } : Jvm.MethodName)) ∈ TB := tbI 305 rfl rfl
set_option maxRecDepth 100000 in
theorem tb_306 : (Jvm.Cond.code ({ cls := "NameSeeker", name := "readItem", desc := "(I)V" } : Jvm.MethodName) prog_1_method_9_code (4 : Nat) (Option.none : Option Jvm.ClassFile.FieldType)) ∈ TB := tbI 306 rfl rfl
set_option maxRecDepth 100000 in
theorem tb_307 : (Jvm.Cond.methodLink "NameSeeker" (159 : Nat) ({ cls := "NameSeeker$Text", name := "at", desc := "(I)C" } : Jvm.MethodName)) ∈ TB := tbI 307 rfl rfl
set_option maxRecDepth 100000 in
theorem tb_308 : (Jvm.Cond.instanceMethod ({ cls := "NameSeeker$Text", name := "at", desc := "(I)C" } : Jvm.MethodName)) ∈ TB := tbI 308 rfl rfl
set_option maxRecDepth 100000 in
theorem tb_309 : (Jvm.Cond.selects "NameSeeker$Text" ({ cls := "NameSeeker$Text", name := "at", desc := "(I)C" } : Jvm.MethodName) ({ cls := "NameSeeker$Text", name := "at", desc := "(I)C" } : Jvm.MethodName)) ∈ TB := tbI 309 rfl rfl
set_option maxRecDepth 100000 in
theorem tb_310 : (Jvm.Cond.code ({ cls := "NameSeeker$Text", name := "at", desc := "(I)C" } : Jvm.MethodName) prog_9_method_4_code (2 : Nat) (Option.some Jvm.ClassFile.FieldType.char)) ∈ TB := tbI 310 rfl rfl
set_option maxRecDepth 100000 in
theorem tb_311 : (Jvm.Cond.methodLink "NameSeeker" (162 : Nat) ({ cls := "NameSeeker$Text", name := "figureAt", desc := "(I)I" } : Jvm.MethodName)) ∈ TB := tbI 311 rfl rfl
set_option maxRecDepth 100000 in
theorem tb_312 : (Jvm.Cond.instanceMethod ({ cls := "NameSeeker$Text", name := "figureAt", desc := "(I)I" } : Jvm.MethodName)) ∈ TB := tbI 312 rfl rfl
set_option maxRecDepth 100000 in
theorem tb_313 : (Jvm.Cond.selects "NameSeeker$Text" ({ cls := "NameSeeker$Text", name := "figureAt", desc := "(I)I" } : Jvm.MethodName) ({ cls := "NameSeeker$Text", name := "figureAt", desc := "(I)I" } : Jvm.MethodName)) ∈ TB := tbI 313 rfl rfl
set_option maxRecDepth 100000 in
theorem tb_314 : (Jvm.Cond.code ({ cls := "NameSeeker$Text", name := "figureAt", desc := "(I)I" } : Jvm.MethodName) prog_9_method_5_code (2 : Nat) (Option.some Jvm.ClassFile.FieldType.int)) ∈ TB := tbI 314 rfl rfl
set_option maxRecDepth 100000 in
theorem tb_315 : (Jvm.Cond.methodLink "NameSeeker$Text" (19 : Nat) ({ cls := "NameSeeker$Text", name := "at", desc := "(I)C" } : Jvm.MethodName)) ∈ TB := tbI 315 rfl rfl
set_option maxRecDepth 100000 in
theorem tb_316 : (Jvm.Cond.methodLink "NameSeeker" (165 : Nat) ({ cls := "NameSeeker$Scales", name := "set", desc := "(III)V" } : Jvm.MethodName)) ∈ TB := tbI 316 rfl rfl
set_option maxRecDepth 100000 in
theorem tb_317 : (Jvm.Cond.methodLink "NameSeeker" (169 : Nat) ({ cls := "NameSeeker$Lot", name := "addName", desc := "(I)LNameSeeker$Name;" } : Jvm.MethodName)) ∈ TB := tbI 317 rfl rfl
set_option maxRecDepth 100000 in
theorem tb_318 : (Jvm.Cond.instanceMethod ({ cls := "NameSeeker$Lot", name := "addName", desc := "(I)LNameSeeker$Name;" } : Jvm.MethodName)) ∈ TB := tbI 318 rfl rfl
set_option maxRecDepth 100000 in
theorem tb_319 : (Jvm.Cond.selects "NameSeeker$Lot" ({ cls := "NameSeeker$Lot", name := "addName", desc := "(I)LNameSeeker$Name;" } : Jvm.MethodName) ({ cls := "NameSeeker$Lot", name := "addName", desc := "(I)LNameSeeker$Name;" } : Jvm.MethodName)) ∈ TB := tbI 319 rfl rfl
set_option maxRecDepth 100000 in
theorem tb_320 : (Jvm.Cond.code ({ cls := "NameSeeker$Lot", name := "addName", desc := "(I)LNameSeeker$Name;" } : Jvm.MethodName) prog_5_method_4_code (3 : Nat) (Option.some (Jvm.ClassFile.FieldType.object "NameSeeker$Name"))) ∈ TB := tbI 320 rfl rfl
set_option maxRecDepth 100000 in
theorem tb_321 : (Jvm.Cond.methodLink "NameSeeker$Lot" (25 : Nat) ({ cls := "NameSeeker$Name", name := "reset", desc := "(II)V" } : Jvm.MethodName)) ∈ TB := tbI 321 rfl rfl
set_option maxRecDepth 100000 in
theorem tb_322 : (Jvm.Cond.instanceMethod ({ cls := "NameSeeker$Name", name := "reset", desc := "(II)V" } : Jvm.MethodName)) ∈ TB := tbI 322 rfl rfl
set_option maxRecDepth 100000 in
theorem tb_323 : (Jvm.Cond.selects "NameSeeker$Name" ({ cls := "NameSeeker$Name", name := "reset", desc := "(II)V" } : Jvm.MethodName) ({ cls := "NameSeeker$Name", name := "reset", desc := "(II)V" } : Jvm.MethodName)) ∈ TB := tbI 323 rfl rfl
set_option maxRecDepth 100000 in
theorem tb_324 : (Jvm.Cond.code ({ cls := "NameSeeker$Name", name := "reset", desc := "(II)V" } : Jvm.MethodName) prog_6_method_2_code (3 : Nat) (Option.none : Option Jvm.ClassFile.FieldType)) ∈ TB := tbI 324 rfl rfl
set_option maxRecDepth 100000 in
theorem tb_325 : (Jvm.Cond.methodLink "NameSeeker" (173 : Nat) ({ cls := "NameSeeker", name := "isSign", desc := "(I)Z" } : Jvm.MethodName)) ∈ TB := tbI 325 rfl rfl
set_option maxRecDepth 100000 in
theorem tb_326 : (Jvm.Cond.static ({ cls := "NameSeeker", name := "isSign", desc := "(I)Z" } : Jvm.MethodName)) ∈ TB := tbI 326 rfl rfl
set_option maxRecDepth 100000 in
theorem tb_327 : (Jvm.Cond.code ({ cls := "NameSeeker", name := "isSign", desc := "(I)Z" } : Jvm.MethodName) prog_1_method_36_code (1 : Nat) (Option.some Jvm.ClassFile.FieldType.boolean)) ∈ TB := tbI 327 rfl rfl
set_option maxRecDepth 100000 in
theorem tb_328 : (Jvm.Cond.methodLink "NameSeeker" (179 : Nat) ({ cls := "NameSeeker", name := "isLetter", desc := "(I)Z" } : Jvm.MethodName)) ∈ TB := tbI 328 rfl rfl
set_option maxRecDepth 100000 in
theorem tb_329 : (Jvm.Cond.static ({ cls := "NameSeeker", name := "isLetter", desc := "(I)Z" } : Jvm.MethodName)) ∈ TB := tbI 329 rfl rfl
set_option maxRecDepth 100000 in
theorem tb_330 : (Jvm.Cond.code ({ cls := "NameSeeker", name := "isLetter", desc := "(I)Z" } : Jvm.MethodName) prog_1_method_35_code (1 : Nat) (Option.some Jvm.ClassFile.FieldType.boolean)) ∈ TB := tbI 330 rfl rfl
set_option maxRecDepth 100000 in
theorem tb_331 : (Jvm.Cond.methodLink "NameSeeker" (301 : Nat) ({ cls := "NameSeeker", name := "isSmall", desc := "(I)Z" } : Jvm.MethodName)) ∈ TB := tbI 331 rfl rfl
set_option maxRecDepth 100000 in
theorem tb_332 : (Jvm.Cond.static ({ cls := "NameSeeker", name := "isSmall", desc := "(I)Z" } : Jvm.MethodName)) ∈ TB := tbI 332 rfl rfl
set_option maxRecDepth 100000 in
theorem tb_333 : (Jvm.Cond.code ({ cls := "NameSeeker", name := "isSmall", desc := "(I)Z" } : Jvm.MethodName) prog_1_method_33_code (1 : Nat) (Option.some Jvm.ClassFile.FieldType.boolean)) ∈ TB := tbI 333 rfl rfl
set_option maxRecDepth 100000 in
theorem tb_334 : (Jvm.Cond.methodLink "NameSeeker" (304 : Nat) ({ cls := "NameSeeker", name := "isGreat", desc := "(I)Z" } : Jvm.MethodName)) ∈ TB := tbI 334 rfl rfl
set_option maxRecDepth 100000 in
theorem tb_335 : (Jvm.Cond.static ({ cls := "NameSeeker", name := "isGreat", desc := "(I)Z" } : Jvm.MethodName)) ∈ TB := tbI 335 rfl rfl
set_option maxRecDepth 100000 in
theorem tb_336 : (Jvm.Cond.code ({ cls := "NameSeeker", name := "isGreat", desc := "(I)Z" } : Jvm.MethodName) prog_1_method_34_code (1 : Nat) (Option.some Jvm.ClassFile.FieldType.boolean)) ∈ TB := tbI 336 rfl rfl
set_option maxRecDepth 100000 in
theorem tb_337 : (Jvm.Cond.methodLink "NameSeeker" (176 : Nat) ({ cls := "NameSeeker$Name", name := "addSign", desc := "(C)V" } : Jvm.MethodName)) ∈ TB := tbI 337 rfl rfl
set_option maxRecDepth 100000 in
theorem tb_338 : (Jvm.Cond.instanceMethod ({ cls := "NameSeeker$Name", name := "addSign", desc := "(C)V" } : Jvm.MethodName)) ∈ TB := tbI 338 rfl rfl
set_option maxRecDepth 100000 in
theorem tb_339 : (Jvm.Cond.selects "NameSeeker$Name" ({ cls := "NameSeeker$Name", name := "addSign", desc := "(C)V" } : Jvm.MethodName) ({ cls := "NameSeeker$Name", name := "addSign", desc := "(C)V" } : Jvm.MethodName)) ∈ TB := tbI 339 rfl rfl
set_option maxRecDepth 100000 in
theorem tb_340 : (Jvm.Cond.code ({ cls := "NameSeeker$Name", name := "addSign", desc := "(C)V" } : Jvm.MethodName) prog_6_method_3_code (2 : Nat) (Option.none : Option Jvm.ClassFile.FieldType)) ∈ TB := tbI 340 rfl rfl
set_option maxRecDepth 100000 in
theorem tb_341 : (Jvm.Cond.methodLink "NameSeeker$Name" (34 : Nat) ({ cls := "NameSeeker$Name", name := "wouldBegin", desc := "(C)Z" } : Jvm.MethodName)) ∈ TB := tbI 341 rfl rfl
set_option maxRecDepth 100000 in
theorem tb_343 : (Jvm.Cond.instanceMethod ({ cls := "NameSeeker$Name", name := "wouldBegin", desc := "(C)Z" } : Jvm.MethodName)) ∈ TB := tbI 343 rfl rfl
set_option maxRecDepth 100000 in
theorem tb_344 : (Jvm.Cond.code ({ cls := "NameSeeker$Name", name := "wouldBegin", desc := "(C)Z" } : Jvm.MethodName) prog_6_method_4_code (3 : Nat) (Option.some Jvm.ClassFile.FieldType.boolean)) ∈ TB := tbI 344 rfl rfl
set_option maxRecDepth 100000 in
theorem tb_349 : (Jvm.Cond.static ({ cls := "NameSeeker", name := "letterNumber", desc := "(I)I" } : Jvm.MethodName)) ∈ TB := tbI 349 rfl rfl
set_option maxRecDepth 100000 in
theorem tb_350 : (Jvm.Cond.code ({ cls := "NameSeeker", name := "letterNumber", desc := "(I)I" } : Jvm.MethodName) prog_1_method_37_code (1 : Nat) (Option.some Jvm.ClassFile.FieldType.int)) ∈ TB := tbI 350 rfl rfl
set_option maxRecDepth 100000 in
theorem tb_351 : (Jvm.Cond.methodLink "NameSeeker" (154 : Nat) ({ cls := "NameSeeker$Text", name := "behindItem", desc := "(I)I" } : Jvm.MethodName)) ∈ TB := tbI 351 rfl rfl
set_option maxRecDepth 100000 in
theorem tb_352 : (Jvm.Cond.instanceMethod ({ cls := "NameSeeker$Text", name := "behindItem", desc := "(I)I" } : Jvm.MethodName)) ∈ TB := tbI 352 rfl rfl
set_option maxRecDepth 100000 in
theorem tb_353 : (Jvm.Cond.selects "NameSeeker$Text" ({ cls := "NameSeeker$Text", name := "behindItem", desc := "(I)I" } : Jvm.MethodName) ({ cls := "NameSeeker$Text", name := "behindItem", desc := "(I)I" } : Jvm.MethodName)) ∈ TB := tbI 353 rfl rfl
set_option maxRecDepth 100000 in
theorem tb_354 : (Jvm.Cond.code ({ cls := "NameSeeker$Text", name := "behindItem", desc := "(I)I" } : Jvm.MethodName) prog_9_method_8_code (2 : Nat) (Option.some Jvm.ClassFile.FieldType.int)) ∈ TB := tbI 354 rfl rfl
set_option maxRecDepth 100000 in
theorem tb_355 : (Jvm.Cond.methodLink "NameSeeker$Text" (27 : Nat) ({ cls := "NameSeeker$Text", name := "behindName", desc := "(I)I" } : Jvm.MethodName)) ∈ TB := tbI 355 rfl rfl
set_option maxRecDepth 100000 in
theorem tb_357 : (Jvm.Cond.instanceMethod ({ cls := "NameSeeker$Text", name := "behindName", desc := "(I)I" } : Jvm.MethodName)) ∈ TB := tbI 357 rfl rfl
set_option maxRecDepth 100000 in
theorem tb_358 : (Jvm.Cond.code ({ cls := "NameSeeker$Text", name := "behindName", desc := "(I)I" } : Jvm.MethodName) prog_9_method_9_code (4 : Nat) (Option.some Jvm.ClassFile.FieldType.int)) ∈ TB := tbI 358 rfl rfl
set_option maxRecDepth 100000 in
theorem tb_359 : (Jvm.Cond.methodLink "NameSeeker$Text" (33 : Nat) ({ cls := "NameSeeker$Text", name := "isFigure", desc := "(II)Z" } : Jvm.MethodName)) ∈ TB := tbI 359 rfl rfl
set_option maxRecDepth 100000 in
theorem tb_361 : (Jvm.Cond.instanceMethod ({ cls := "NameSeeker$Text", name := "isFigure", desc := "(II)Z" } : Jvm.MethodName)) ∈ TB := tbI 361 rfl rfl
set_option maxRecDepth 100000 in
theorem tb_362 : (Jvm.Cond.code ({ cls := "NameSeeker$Text", name := "isFigure", desc := "(II)Z" } : Jvm.MethodName) prog_9_method_11_code (3 : Nat) (Option.some Jvm.ClassFile.FieldType.boolean)) ∈ TB := tbI 362 rfl rfl
set_option maxRecDepth 100000 in
theorem tb_363 : (Jvm.Cond.methodLink "NameSeeker$Text" (41 : Nat) ({ cls := "NameSeeker$Text", name := "figureAt", desc := "(I)I" } : Jvm.MethodName)) ∈ TB := tbI 363 rfl rfl
set_option maxRecDepth 100000 in
theorem tb_365 : (Jvm.Cond.methodLink "NameSeeker$Text" (30 : Nat) ({ cls := "NameSeeker$Text", name := "behindWorths", desc := "(I)I" } : Jvm.MethodName)) ∈ TB := tbI 365 rfl rfl
set_option maxRecDepth 100000 in
theorem tb_367 : (Jvm.Cond.instanceMethod ({ cls := "NameSeeker$Text", name := "behindWorths", desc := "(I)I" } : Jvm.MethodName)) ∈ TB := tbI 367 rfl rfl
set_option maxRecDepth 100000 in
theorem tb_368 : (Jvm.Cond.code ({ cls := "NameSeeker$Text", name := "behindWorths", desc := "(I)I" } : Jvm.MethodName) prog_9_method_10_code (3 : Nat) (Option.some Jvm.ClassFile.FieldType.int)) ∈ TB := tbI 368 rfl rfl
set_option maxRecDepth 100000 in
theorem tb_369 : (Jvm.Cond.methodLink "NameSeeker" (158 : Nat) ({ cls := "NameSeeker$Word", name := "clear", desc := "()V" } : Jvm.MethodName)) ∈ TB := tbI 369 rfl rfl
set_option maxRecDepth 100000 in
theorem tb_370 : (Jvm.Cond.instanceMethod ({ cls := "NameSeeker$Word", name := "clear", desc := "()V" } : Jvm.MethodName)) ∈ TB := tbI 370 rfl rfl
set_option maxRecDepth 100000 in
theorem tb_371 : (Jvm.Cond.selects "NameSeeker$Word" ({ cls := "NameSeeker$Word", name := "clear", desc := "()V" } : Jvm.MethodName) ({ cls := "NameSeeker$Word", name := "clear", desc := "()V" } : Jvm.MethodName)) ∈ TB := tbI 371 rfl rfl
set_option maxRecDepth 100000 in
theorem tb_372 : (Jvm.Cond.code ({ cls := "NameSeeker$Word", name := "clear", desc := "()V" } : Jvm.MethodName) prog_10_method_2_code (1 : Nat) (Option.none : Option Jvm.ClassFile.FieldType)) ∈ TB := tbI 372 rfl rfl
set_option maxRecDepth 100000 in
theorem tb_373 : (Jvm.Cond.methodLink "NameSeeker" (104 : Nat) ({ cls := "NameSeeker$Text", name := "clear", desc := "()I" } : Jvm.MethodName)) ∈ TB := tbI 373 rfl rfl
set_option maxRecDepth 100000 in
theorem tb_374 : (Jvm.Cond.instanceMethod ({ cls := "NameSeeker$Text", name := "clear", desc := "()I" } : Jvm.MethodName)) ∈ TB := tbI 374 rfl rfl
set_option maxRecDepth 100000 in
theorem tb_375 : (Jvm.Cond.selects "NameSeeker$Text" ({ cls := "NameSeeker$Text", name := "clear", desc := "()I" } : Jvm.MethodName) ({ cls := "NameSeeker$Text", name := "clear", desc := "()I" } : Jvm.MethodName)) ∈ TB := tbI 375 rfl rfl
set_option maxRecDepth 100000 in
theorem tb_376 : (Jvm.Cond.code ({ cls := "NameSeeker$Text", name := "clear", desc := "()I" } : Jvm.MethodName) prog_9_method_3_code (2 : Nat) (Option.some Jvm.ClassFile.FieldType.int)) ∈ TB := tbI 376 rfl rfl
set_option maxRecDepth 100000 in
theorem tb_377 : (Jvm.Cond.fieldLink "NameSeeker" (10 : Nat) "NameSeeker" "text" "LNameSeeker$Text;") ∈ TB := tbI 377 rfl rfl
set_option maxRecDepth 100000 in
theorem tb_378 : (Jvm.Cond.fieldLink "NameSeeker" (19 : Nat) "NameSeeker" "lot" "LNameSeeker$Lot;") ∈ TB := tbI 378 rfl rfl
set_option maxRecDepth 100000 in
theorem tb_379 : (Jvm.Cond.fieldLink "NameSeeker" (26 : Nat) "NameSeeker" "scales" "LNameSeeker$Scales;") ∈ TB := tbI 379 rfl rfl
set_option maxRecDepth 100000 in
theorem tb_380 : (Jvm.Cond.fieldLink "NameSeeker" (33 : Nat) "NameSeeker" "typed" "LNameSeeker$Word;") ∈ TB := tbI 380 rfl rfl
set_option maxRecDepth 100000 in
theorem tb_381 : (Jvm.Cond.fieldLink "NameSeeker" (37 : Nat) "NameSeeker" "tried" "LNameSeeker$Word;") ∈ TB := tbI 381 rfl rfl
set_option maxRecDepth 100000 in
theorem tb_382 : (Jvm.Cond.fieldLink "NameSeeker" (40 : Nat) "NameSeeker" "kept" "[LNameSeeker$Word;") ∈ TB := tbI 382 rfl rfl
set_option maxRecDepth 100000 in
theorem tb_383 : (Jvm.Cond.fieldLink "NameSeeker" (47 : Nat) "NameSeeker" "laying" "LNameSeeker$Laying;") ∈ TB := tbI 383 rfl rfl
set_option maxRecDepth 100000 in
theorem tb_384 : (Jvm.Cond.fieldLink "NameSeeker" (54 : Nat) "NameSeeker" "known" "LNameSeeker$Known;") ∈ TB := tbI 384 rfl rfl
set_option maxRecDepth 100000 in
theorem tb_385 : (Jvm.Cond.fieldLink "NameSeeker" (61 : Nat) "NameSeeker" "askedCodes" "LNameSeeker$Asked;") ∈ TB := tbI 385 rfl rfl
set_option maxRecDepth 100000 in
theorem tb_386 : (Jvm.Cond.fieldLink "NameSeeker" (68 : Nat) "NameSeeker" "ranking" "LNameSeeker$Ranking;") ∈ TB := tbI 386 rfl rfl
set_option maxRecDepth 100000 in
theorem tb_387 : (Jvm.Cond.fieldLink "NameSeeker" (72 : Nat) "NameSeeker" "keptSize" "I") ∈ TB := tbI 387 rfl rfl
set_option maxRecDepth 100000 in
theorem tb_388 : (Jvm.Cond.fieldLink "NameSeeker" (76 : Nat) "NameSeeker" "tick" "I") ∈ TB := tbI 388 rfl rfl
set_option maxRecDepth 100000 in
theorem tb_389 : (Jvm.Cond.fieldLink "NameSeeker" (79 : Nat) "NameSeeker" "age" "I") ∈ TB := tbI 389 rfl rfl
set_option maxRecDepth 100000 in
theorem tb_390 : (Jvm.Cond.fieldLink "NameSeeker" (82 : Nat) "NameSeeker" "seed" "I") ∈ TB := tbI 390 rfl rfl
set_option maxRecDepth 100000 in
theorem tb_420 : (Jvm.Cond.arrayClass Jvm.ClassFile.FieldType.byte) ∈ TB := tbI 420 rfl rfl
set_option maxRecDepth 100000 in
theorem tb_421 : (Jvm.Cond.methodLink "NameSeekerLaw" (95 : Nat) ({ cls := "NameSeeker", name := "name", desc := "(II)I" } : Jvm.MethodName)) ∈ TB := tbI 421 rfl rfl
set_option maxRecDepth 100000 in
theorem tb_422 : (Jvm.Cond.instanceMethod ({ cls := "NameSeeker", name := "name", desc := "(II)I" } : Jvm.MethodName)) ∈ TB := tbI 422 rfl rfl
set_option maxRecDepth 100000 in
theorem tb_423 : (Jvm.Cond.selects "NameSeeker" ({ cls := "NameSeeker", name := "name", desc := "(II)I" } : Jvm.MethodName) ({ cls := "NameSeeker", name := "name", desc := "(II)I" } : Jvm.MethodName)) ∈ TB := tbI 423 rfl rfl
set_option maxRecDepth 100000 in
theorem tb_424 : (Jvm.Cond.code ({ cls := "NameSeeker", name := "name", desc := "(II)I" } : Jvm.MethodName) prog_1_method_6_code (4 : Nat) (Option.some Jvm.ClassFile.FieldType.int)) ∈ TB := tbI 424 rfl rfl
set_option maxRecDepth 100000 in
theorem tb_425 : (Jvm.Cond.methodLink "NameSeeker" (118 : Nat) ({ cls := "NameSeeker$Lot", name := "has", desc := "(I)Z" } : Jvm.MethodName)) ∈ TB := tbI 425 rfl rfl
set_option maxRecDepth 100000 in
theorem tb_426 : (Jvm.Cond.instanceMethod ({ cls := "NameSeeker$Lot", name := "has", desc := "(I)Z" } : Jvm.MethodName)) ∈ TB := tbI 426 rfl rfl
set_option maxRecDepth 100000 in
theorem tb_427 : (Jvm.Cond.selects "NameSeeker$Lot" ({ cls := "NameSeeker$Lot", name := "has", desc := "(I)Z" } : Jvm.MethodName) ({ cls := "NameSeeker$Lot", name := "has", desc := "(I)Z" } : Jvm.MethodName)) ∈ TB := tbI 427 rfl rfl
set_option maxRecDepth 100000 in
theorem tb_428 : (Jvm.Cond.code ({ cls := "NameSeeker$Lot", name := "has", desc := "(I)Z" } : Jvm.MethodName) prog_5_method_2_code (2 : Nat) (Option.some Jvm.ClassFile.FieldType.boolean)) ∈ TB := tbI 428 rfl rfl
set_option maxRecDepth 100000 in
theorem tb_429 : (Jvm.Cond.methodLink "NameSeekerLaw" (52 : Nat) ({ cls := "NameSeeker", name := "type", desc := "(I)I" } : Jvm.MethodName)) ∈ TB := tbI 429 rfl rfl
set_option maxRecDepth 100000 in
theorem tb_430 : (Jvm.Cond.instanceMethod ({ cls := "NameSeeker", name := "type", desc := "(I)I" } : Jvm.MethodName)) ∈ TB := tbI 430 rfl rfl
set_option maxRecDepth 100000 in
theorem tb_431 : (Jvm.Cond.selects "NameSeeker" ({ cls := "NameSeeker", name := "type", desc := "(I)I" } : Jvm.MethodName) ({ cls := "NameSeeker", name := "type", desc := "(I)I" } : Jvm.MethodName)) ∈ TB := tbI 431 rfl rfl
set_option maxRecDepth 100000 in
theorem tb_432 : (Jvm.Cond.code ({ cls := "NameSeeker", name := "type", desc := "(I)I" } : Jvm.MethodName) prog_1_method_10_code (2 : Nat) (Option.some Jvm.ClassFile.FieldType.int)) ∈ TB := tbI 432 rfl rfl
set_option maxRecDepth 100000 in
theorem tb_433 : (Jvm.Cond.methodLink "NameSeeker" (183 : Nat) ({ cls := "NameSeeker$Word", name := "add", desc := "(C)V" } : Jvm.MethodName)) ∈ TB := tbI 433 rfl rfl
set_option maxRecDepth 100000 in
theorem tb_434 : (Jvm.Cond.instanceMethod ({ cls := "NameSeeker$Word", name := "add", desc := "(C)V" } : Jvm.MethodName)) ∈ TB := tbI 434 rfl rfl
set_option maxRecDepth 100000 in
theorem tb_435 : (Jvm.Cond.selects "NameSeeker$Word" ({ cls := "NameSeeker$Word", name := "add", desc := "(C)V" } : Jvm.MethodName) ({ cls := "NameSeeker$Word", name := "add", desc := "(C)V" } : Jvm.MethodName)) ∈ TB := tbI 435 rfl rfl
set_option maxRecDepth 100000 in
theorem tb_436 : (Jvm.Cond.code ({ cls := "NameSeeker$Word", name := "add", desc := "(C)V" } : Jvm.MethodName) prog_10_method_3_code (2 : Nat) (Option.none : Option Jvm.ClassFile.FieldType)) ∈ TB := tbI 436 rfl rfl
set_option maxRecDepth 100000 in
theorem tb_437 : (Jvm.Cond.methodLink "NameSeekerLaw" (46 : Nat) ({ cls := "NameSeeker", name := "untype", desc := "()I" } : Jvm.MethodName)) ∈ TB := tbI 437 rfl rfl
set_option maxRecDepth 100000 in
theorem tb_438 : (Jvm.Cond.instanceMethod ({ cls := "NameSeeker", name := "untype", desc := "()I" } : Jvm.MethodName)) ∈ TB := tbI 438 rfl rfl
set_option maxRecDepth 100000 in
theorem tb_439 : (Jvm.Cond.selects "NameSeeker" ({ cls := "NameSeeker", name := "untype", desc := "()I" } : Jvm.MethodName) ({ cls := "NameSeeker", name := "untype", desc := "()I" } : Jvm.MethodName)) ∈ TB := tbI 439 rfl rfl
set_option maxRecDepth 100000 in
theorem tb_440 : (Jvm.Cond.code ({ cls := "NameSeeker", name := "untype", desc := "()I" } : Jvm.MethodName) prog_1_method_11_code (1 : Nat) (Option.some Jvm.ClassFile.FieldType.int)) ∈ TB := tbI 440 rfl rfl
set_option maxRecDepth 100000 in
theorem tb_441 : (Jvm.Cond.methodLink "NameSeeker" (186 : Nat) ({ cls := "NameSeeker$Word", name := "removeLast", desc := "()I" } : Jvm.MethodName)) ∈ TB := tbI 441 rfl rfl
set_option maxRecDepth 100000 in
theorem tb_442 : (Jvm.Cond.instanceMethod ({ cls := "NameSeeker$Word", name := "removeLast", desc := "()I" } : Jvm.MethodName)) ∈ TB := tbI 442 rfl rfl
set_option maxRecDepth 100000 in
theorem tb_443 : (Jvm.Cond.selects "NameSeeker$Word" ({ cls := "NameSeeker$Word", name := "removeLast", desc := "()I" } : Jvm.MethodName) ({ cls := "NameSeeker$Word", name := "removeLast", desc := "()I" } : Jvm.MethodName)) ∈ TB := tbI 443 rfl rfl
set_option maxRecDepth 100000 in
theorem tb_444 : (Jvm.Cond.code ({ cls := "NameSeeker$Word", name := "removeLast", desc := "()I" } : Jvm.MethodName) prog_10_method_4_code (1 : Nat) (Option.some Jvm.ClassFile.FieldType.int)) ∈ TB := tbI 444 rfl rfl
set_option maxRecDepth 100000 in
theorem tb_445 : (Jvm.Cond.methodLink "NameSeekerLaw" (120 : Nat) ({ cls := "NameSeeker", name := "pick", desc := "(I)I" } : Jvm.MethodName)) ∈ TB := tbI 445 rfl rfl
set_option maxRecDepth 100000 in
theorem tb_446 : (Jvm.Cond.instanceMethod ({ cls := "NameSeeker", name := "pick", desc := "(I)I" } : Jvm.MethodName)) ∈ TB := tbI 446 rfl rfl
set_option maxRecDepth 100000 in
theorem tb_447 : (Jvm.Cond.selects "NameSeeker" ({ cls := "NameSeeker", name := "pick", desc := "(I)I" } : Jvm.MethodName) ({ cls := "NameSeeker", name := "pick", desc := "(I)I" } : Jvm.MethodName)) ∈ TB := tbI 447 rfl rfl
set_option maxRecDepth 100000 in
theorem tb_448 : (Jvm.Cond.code ({ cls := "NameSeeker", name := "pick", desc := "(I)I" } : Jvm.MethodName) prog_1_method_14_code (2 : Nat) (Option.some Jvm.ClassFile.FieldType.int)) ∈ TB := tbI 448 rfl rfl
set_option maxRecDepth 100000 in
theorem tb_449 : (Jvm.Cond.methodLink "NameSeekerLaw" (70 : Nat) ({ cls := "NameSeeker", name := "passes", desc := "(I)I" } : Jvm.MethodName)) ∈ TB := tbI 449 rfl rfl
set_option maxRecDepth 100000 in
theorem tb_450 : (Jvm.Cond.instanceMethod ({ cls := "NameSeeker", name := "passes", desc := "(I)I" } : Jvm.MethodName)) ∈ TB := tbI 450 rfl rfl
set_option maxRecDepth 100000 in
theorem tb_451 : (Jvm.Cond.selects "NameSeeker" ({ cls := "NameSeeker", name := "passes", desc := "(I)I" } : Jvm.MethodName) ({ cls := "NameSeeker", name := "passes", desc := "(I)I" } : Jvm.MethodName)) ∈ TB := tbI 451 rfl rfl
set_option maxRecDepth 100000 in
theorem tb_452 : (Jvm.Cond.code ({ cls := "NameSeeker", name := "passes", desc := "(I)I" } : Jvm.MethodName) prog_1_method_23_code (5 : Nat) (Option.some Jvm.ClassFile.FieldType.int)) ∈ TB := tbI 452 rfl rfl
set_option maxRecDepth 100000 in
theorem tb_453 : (Jvm.Cond.methodLink "NameSeeker" (237 : Nat) ({ cls := "NameSeeker$Name", name := "hasAll", desc := "(LNameSeeker$Word;)Z" } : Jvm.MethodName)) ∈ TB := tbI 453 rfl rfl
set_option maxRecDepth 100000 in
theorem tb_454 : (Jvm.Cond.instanceMethod ({ cls := "NameSeeker$Name", name := "hasAll", desc := "(LNameSeeker$Word;)Z" } : Jvm.MethodName)) ∈ TB := tbI 454 rfl rfl
set_option maxRecDepth 100000 in
theorem tb_455 : (Jvm.Cond.selects "NameSeeker$Name" ({ cls := "NameSeeker$Name", name := "hasAll", desc := "(LNameSeeker$Word;)Z" } : Jvm.MethodName) ({ cls := "NameSeeker$Name", name := "hasAll", desc := "(LNameSeeker$Word;)Z" } : Jvm.MethodName)) ∈ TB := tbI 455 rfl rfl
set_option maxRecDepth 100000 in
theorem tb_456 : (Jvm.Cond.code ({ cls := "NameSeeker$Name", name := "hasAll", desc := "(LNameSeeker$Word;)Z" } : Jvm.MethodName) prog_6_method_6_code (2 : Nat) (Option.some Jvm.ClassFile.FieldType.boolean)) ∈ TB := tbI 456 rfl rfl
set_option maxRecDepth 100000 in
theorem tb_457 : (Jvm.Cond.methodLink "NameSeeker$Name" (52 : Nat) ({ cls := "NameSeeker$Word", name := "letterBits", desc := "()I" } : Jvm.MethodName)) ∈ TB := tbI 457 rfl rfl
set_option maxRecDepth 100000 in
theorem tb_458 : (Jvm.Cond.instanceMethod ({ cls := "NameSeeker$Word", name := "letterBits", desc := "()I" } : Jvm.MethodName)) ∈ TB := tbI 458 rfl rfl
set_option maxRecDepth 100000 in
theorem tb_459 : (Jvm.Cond.selects "NameSeeker$Word" ({ cls := "NameSeeker$Word", name := "letterBits", desc := "()I" } : Jvm.MethodName) ({ cls := "NameSeeker$Word", name := "letterBits", desc := "()I" } : Jvm.MethodName)) ∈ TB := tbI 459 rfl rfl
set_option maxRecDepth 100000 in
theorem tb_460 : (Jvm.Cond.code ({ cls := "NameSeeker$Word", name := "letterBits", desc := "()I" } : Jvm.MethodName) prog_10_method_7_code (3 : Nat) (Option.some Jvm.ClassFile.FieldType.int)) ∈ TB := tbI 460 rfl rfl
set_option maxRecDepth 100000 in
theorem tb_462 : (Jvm.Cond.methodLink "NameSeeker" (233 : Nat) ({ cls := "NameSeeker$Laying", name := "countWays", desc := "(LNameSeeker$Name;LNameSeeker$Word;)I" } : Jvm.MethodName)) ∈ TB := tbI 462 rfl rfl
set_option maxRecDepth 100000 in
theorem tb_463 : (Jvm.Cond.instanceMethod ({ cls := "NameSeeker$Laying", name := "countWays", desc := "(LNameSeeker$Name;LNameSeeker$Word;)I" } : Jvm.MethodName)) ∈ TB := tbI 463 rfl rfl
set_option maxRecDepth 100000 in
theorem tb_464 : (Jvm.Cond.selects "NameSeeker$Laying" ({ cls := "NameSeeker$Laying", name := "countWays", desc := "(LNameSeeker$Name;LNameSeeker$Word;)I" } : Jvm.MethodName) ({ cls := "NameSeeker$Laying", name := "countWays", desc := "(LNameSeeker$Name;LNameSeeker$Word;)I" } : Jvm.MethodName)) ∈ TB := tbI 464 rfl rfl
set_option maxRecDepth 100000 in
theorem tb_465 : (Jvm.Cond.code ({ cls := "NameSeeker$Laying", name := "countWays", desc := "(LNameSeeker$Name;LNameSeeker$Word;)I" } : Jvm.MethodName) prog_4_method_6_code (5 : Nat) (Option.some Jvm.ClassFile.FieldType.int)) ∈ TB := tbI 465 rfl rfl
set_option maxRecDepth 100000 in
theorem tb_466 : (Jvm.Cond.methodLink "NameSeeker$Laying" (43 : Nat) ({ cls := "NameSeeker$Name", name := "isAlike", desc := "(IC)Z" } : Jvm.MethodName)) ∈ TB := tbI 466 rfl rfl
set_option maxRecDepth 100000 in
theorem tb_467 : (Jvm.Cond.instanceMethod ({ cls := "NameSeeker$Name", name := "isAlike", desc := "(IC)Z" } : Jvm.MethodName)) ∈ TB := tbI 467 rfl rfl
set_option maxRecDepth 100000 in
theorem tb_468 : (Jvm.Cond.selects "NameSeeker$Name" ({ cls := "NameSeeker$Name", name := "isAlike", desc := "(IC)Z" } : Jvm.MethodName) ({ cls := "NameSeeker$Name", name := "isAlike", desc := "(IC)Z" } : Jvm.MethodName)) ∈ TB := tbI 468 rfl rfl
set_option maxRecDepth 100000 in
theorem tb_469 : (Jvm.Cond.code ({ cls := "NameSeeker$Name", name := "isAlike", desc := "(IC)Z" } : Jvm.MethodName) prog_6_method_5_code (4 : Nat) (Option.some Jvm.ClassFile.FieldType.boolean)) ∈ TB := tbI 469 rfl rfl
set_option maxRecDepth 100000 in
theorem tb_470 : (Jvm.Cond.methodLink "NameSeekerLaw" (76 : Nat) ({ cls := "NameSeeker", name := "count", desc := "(I)I" } : Jvm.MethodName)) ∈ TB := tbI 470 rfl rfl
set_option maxRecDepth 100000 in
theorem tb_471 : (Jvm.Cond.instanceMethod ({ cls := "NameSeeker", name := "count", desc := "(I)I" } : Jvm.MethodName)) ∈ TB := tbI 471 rfl rfl
set_option maxRecDepth 100000 in
theorem tb_472 : (Jvm.Cond.selects "NameSeeker" ({ cls := "NameSeeker", name := "count", desc := "(I)I" } : Jvm.MethodName) ({ cls := "NameSeeker", name := "count", desc := "(I)I" } : Jvm.MethodName)) ∈ TB := tbI 472 rfl rfl
set_option maxRecDepth 100000 in
theorem tb_473 : (Jvm.Cond.code ({ cls := "NameSeeker", name := "count", desc := "(I)I" } : Jvm.MethodName) prog_1_method_32_code (2 : Nat) (Option.some Jvm.ClassFile.FieldType.int)) ∈ TB := tbI 473 rfl rfl
set_option maxRecDepth 100000 in
theorem tb_474 : (Jvm.Cond.methodLink "NameSeeker" (214 : Nat) ({ cls := "NameSeeker$Word", name := "code", desc := "()J" } : Jvm.MethodName)) ∈ TB := tbI 474 rfl rfl
set_option maxRecDepth 100000 in
theorem tb_475 : (Jvm.Cond.instanceMethod ({ cls := "NameSeeker$Word", name := "code", desc := "()J" } : Jvm.MethodName)) ∈ TB := tbI 475 rfl rfl
set_option maxRecDepth 100000 in
theorem tb_476 : (Jvm.Cond.selects "NameSeeker$Word" ({ cls := "NameSeeker$Word", name := "code", desc := "()J" } : Jvm.MethodName) ({ cls := "NameSeeker$Word", name := "code", desc := "()J" } : Jvm.MethodName)) ∈ TB := tbI 476 rfl rfl
set_option maxRecDepth 100000 in
theorem tb_477 : (Jvm.Cond.code ({ cls := "NameSeeker$Word", name := "code", desc := "()J" } : Jvm.MethodName) prog_10_method_6_code (5 : Nat) (Option.some Jvm.ClassFile.FieldType.long)) ∈ TB := tbI 477 rfl rfl
set_option maxRecDepth 100000 in
theorem tb_479 : (Jvm.Cond.constantLong "NameSeeker$Word" (23 : Nat) (53 : Int64)) ∈ TB := tbI 479 rfl rfl
set_option maxRecDepth 100000 in
theorem tb_480 : (Jvm.Cond.constantLong "NameSeeker" (246 : Nat) (100003 : Int64)) ∈ TB := tbI 480 rfl rfl
set_option maxRecDepth 100000 in
theorem tb_481 : (Jvm.Cond.methodLink "NameSeekerLaw" (9 : Nat) ({ cls := "NameSeekerLaw", name := "cell", desc := "([II)I" } : Jvm.MethodName)) ∈ TB := tbI 481 rfl rfl
set_option maxRecDepth 100000 in
theorem tb_482 : (Jvm.Cond.static ({ cls := "NameSeekerLaw", name := "cell", desc := "([II)I" } : Jvm.MethodName)) ∈ TB := tbI 482 rfl rfl
set_option maxRecDepth 100000 in
theorem tb_483 : (Jvm.Cond.code ({ cls := "NameSeekerLaw", name := "cell", desc := "([II)I" } : Jvm.MethodName) method_2_code (2 : Nat) (Option.some Jvm.ClassFile.FieldType.int)) ∈ TB := tbI 483 rfl rfl
set_option maxRecDepth 100000 in
theorem tb_484 : (Jvm.Cond.constant "NameSeekerLaw" (7 : Nat) (15485959 : Int32)) ∈ TB := tbI 484 rfl rfl
set_option maxRecDepth 100000 in
theorem tb_485 : (Jvm.Cond.constant "NameSeekerLaw" (8 : Nat) (2147483647 : Int32)) ∈ TB := tbI 485 rfl rfl
set_option maxRecDepth 100000 in
theorem tb_486 : (Jvm.Cond.methodLink "NameSeekerLaw" (108 : Nat) ({ cls := "NameSeekerLaw", name := "draws", desc := "([II[I[J)V" } : Jvm.MethodName)) ∈ TB := tbI 486 rfl rfl
set_option maxRecDepth 100000 in
theorem tb_487 : (Jvm.Cond.static ({ cls := "NameSeekerLaw", name := "draws", desc := "([II[I[J)V" } : Jvm.MethodName)) ∈ TB := tbI 487 rfl rfl
set_option maxRecDepth 100000 in
theorem tb_488 : (Jvm.Cond.code ({ cls := "NameSeekerLaw", name := "draws", desc := "([II[I[J)V" } : Jvm.MethodName) method_3_code (10 : Nat) (Option.none : Option Jvm.ClassFile.FieldType)) ∈ TB := tbI 488 rfl rfl
set_option maxRecDepth 100000 in
theorem tb_489 : (Jvm.Cond.constantLong "NameSeekerLaw" (15 : Nat) (4095 : Int64)) ∈ TB := tbI 489 rfl rfl
set_option maxRecDepth 100000 in
theorem tb_490 : (Jvm.Cond.constantLong "NameSeekerLaw" (17 : Nat) (68719476735 : Int64)) ∈ TB := tbI 490 rfl rfl
set_option maxRecDepth 100000 in
theorem tb_491 : (Jvm.Cond.methodLink "NameSeekerLaw" (49 : Nat) ({ cls := "NameSeekerLaw", name := "letter", desc := "(I)I" } : Jvm.MethodName)) ∈ TB := tbI 491 rfl rfl
set_option maxRecDepth 100000 in
theorem tb_492 : (Jvm.Cond.static ({ cls := "NameSeekerLaw", name := "letter", desc := "(I)I" } : Jvm.MethodName)) ∈ TB := tbI 492 rfl rfl
set_option maxRecDepth 100000 in
theorem tb_493 : (Jvm.Cond.code ({ cls := "NameSeekerLaw", name := "letter", desc := "(I)I" } : Jvm.MethodName) method_5_code (1 : Nat) (Option.some Jvm.ClassFile.FieldType.int)) ∈ TB := tbI 493 rfl rfl
set_option maxRecDepth 100000 in
theorem tb_494 : (Jvm.Cond.methodLink "NameSeekerLaw" (112 : Nat) ({ cls := "NameSeekerLaw", name := "lays", desc := "(LNameSeeker;[I[J)Z" } : Jvm.MethodName)) ∈ TB := tbI 494 rfl rfl
set_option maxRecDepth 100000 in
theorem tb_495 : (Jvm.Cond.static ({ cls := "NameSeekerLaw", name := "lays", desc := "(LNameSeeker;[I[J)Z" } : Jvm.MethodName)) ∈ TB := tbI 495 rfl rfl
set_option maxRecDepth 100000 in
theorem tb_496 : (Jvm.Cond.code ({ cls := "NameSeekerLaw", name := "lays", desc := "(LNameSeeker;[I[J)Z" } : Jvm.MethodName) method_7_code (6 : Nat) (Option.some Jvm.ClassFile.FieldType.boolean)) ∈ TB := tbI 496 rfl rfl
set_option maxRecDepth 100000 in
theorem tb_497 : (Jvm.Cond.methodLink "NameSeekerLaw" (25 : Nat) ({ cls := "NameSeeker", name := "wipe", desc := "()I" } : Jvm.MethodName)) ∈ TB := tbI 497 rfl rfl
set_option maxRecDepth 100000 in
theorem tb_498 : (Jvm.Cond.instanceMethod ({ cls := "NameSeeker", name := "wipe", desc := "()I" } : Jvm.MethodName)) ∈ TB := tbI 498 rfl rfl
set_option maxRecDepth 100000 in
theorem tb_499 : (Jvm.Cond.selects "NameSeeker" ({ cls := "NameSeeker", name := "wipe", desc := "()I" } : Jvm.MethodName) ({ cls := "NameSeeker", name := "wipe", desc := "()I" } : Jvm.MethodName)) ∈ TB := tbI 499 rfl rfl
set_option maxRecDepth 100000 in
theorem tb_500 : (Jvm.Cond.code ({ cls := "NameSeeker", name := "wipe", desc := "()I" } : Jvm.MethodName) prog_1_method_3_code (1 : Nat) (Option.some Jvm.ClassFile.FieldType.int)) ∈ TB := tbI 500 rfl rfl
set_option maxRecDepth 100000 in
theorem tb_501 : (Jvm.Cond.methodLink "NameSeekerLaw" (29 : Nat) ({ cls := "NameSeekerLaw", name := "writes", desc := "(LNameSeeker;I)Z" } : Jvm.MethodName)) ∈ TB := tbI 501 rfl rfl
set_option maxRecDepth 100000 in
theorem tb_502 : (Jvm.Cond.static ({ cls := "NameSeekerLaw", name := "writes", desc := "(LNameSeeker;I)Z" } : Jvm.MethodName)) ∈ TB := tbI 502 rfl rfl
set_option maxRecDepth 100000 in
theorem tb_503 : (Jvm.Cond.code ({ cls := "NameSeekerLaw", name := "writes", desc := "(LNameSeeker;I)Z" } : Jvm.MethodName) method_6_code (2 : Nat) (Option.some Jvm.ClassFile.FieldType.boolean)) ∈ TB := tbI 503 rfl rfl
set_option maxRecDepth 100000 in
theorem tb_504 : (Jvm.Cond.methodLink "NameSeekerLaw" (19 : Nat) ({ cls := "NameSeeker", name := "write", desc := "(I)I" } : Jvm.MethodName)) ∈ TB := tbI 504 rfl rfl
set_option maxRecDepth 100000 in
theorem tb_505 : (Jvm.Cond.instanceMethod ({ cls := "NameSeeker", name := "write", desc := "(I)I" } : Jvm.MethodName)) ∈ TB := tbI 505 rfl rfl
set_option maxRecDepth 100000 in
theorem tb_506 : (Jvm.Cond.selects "NameSeeker" ({ cls := "NameSeeker", name := "write", desc := "(I)I" } : Jvm.MethodName) ({ cls := "NameSeeker", name := "write", desc := "(I)I" } : Jvm.MethodName)) ∈ TB := tbI 506 rfl rfl
set_option maxRecDepth 100000 in
theorem tb_507 : (Jvm.Cond.code ({ cls := "NameSeeker", name := "write", desc := "(I)I" } : Jvm.MethodName) prog_1_method_2_code (2 : Nat) (Option.some Jvm.ClassFile.FieldType.int)) ∈ TB := tbI 507 rfl rfl
set_option maxRecDepth 100000 in
theorem tb_508 : (Jvm.Cond.methodLink "NameSeekerLaw" (33 : Nat) ({ cls := "NameSeekerLaw", name := "sign", desc := "([JII)I" } : Jvm.MethodName)) ∈ TB := tbI 508 rfl rfl
set_option maxRecDepth 100000 in
theorem tb_509 : (Jvm.Cond.static ({ cls := "NameSeekerLaw", name := "sign", desc := "([JII)I" } : Jvm.MethodName)) ∈ TB := tbI 509 rfl rfl
set_option maxRecDepth 100000 in
theorem tb_510 : (Jvm.Cond.code ({ cls := "NameSeekerLaw", name := "sign", desc := "([JII)I" } : Jvm.MethodName) method_4_code (4 : Nat) (Option.some Jvm.ClassFile.FieldType.int)) ∈ TB := tbI 510 rfl rfl
set_option maxRecDepth 100000 in
theorem tb_511 : (Jvm.Cond.methodLink "NameSeekerLaw" (37 : Nat) ({ cls := "NameSeeker", name := "fault", desc := "()I" } : Jvm.MethodName)) ∈ TB := tbI 511 rfl rfl
set_option maxRecDepth 100000 in
theorem tb_512 : (Jvm.Cond.instanceMethod ({ cls := "NameSeeker", name := "fault", desc := "()I" } : Jvm.MethodName)) ∈ TB := tbI 512 rfl rfl
set_option maxRecDepth 100000 in
theorem tb_513 : (Jvm.Cond.selects "NameSeeker" ({ cls := "NameSeeker", name := "fault", desc := "()I" } : Jvm.MethodName) ({ cls := "NameSeeker", name := "fault", desc := "()I" } : Jvm.MethodName)) ∈ TB := tbI 513 rfl rfl
set_option maxRecDepth 100000 in
theorem tb_514 : (Jvm.Cond.code ({ cls := "NameSeeker", name := "fault", desc := "()I" } : Jvm.MethodName) prog_1_method_4_code (1 : Nat) (Option.some Jvm.ClassFile.FieldType.int)) ∈ TB := tbI 514 rfl rfl
set_option maxRecDepth 100000 in
theorem tb_515 : (Jvm.Cond.methodLink "NameSeeker" (110 : Nat) ({ cls := "NameSeeker$Text", name := "firstFault", desc := "()I" } : Jvm.MethodName)) ∈ TB := tbI 515 rfl rfl
set_option maxRecDepth 100000 in
theorem tb_516 : (Jvm.Cond.instanceMethod ({ cls := "NameSeeker$Text", name := "firstFault", desc := "()I" } : Jvm.MethodName)) ∈ TB := tbI 516 rfl rfl
set_option maxRecDepth 100000 in
theorem tb_517 : (Jvm.Cond.selects "NameSeeker$Text" ({ cls := "NameSeeker$Text", name := "firstFault", desc := "()I" } : Jvm.MethodName) ({ cls := "NameSeeker$Text", name := "firstFault", desc := "()I" } : Jvm.MethodName)) ∈ TB := tbI 517 rfl rfl
set_option maxRecDepth 100000 in
theorem tb_518 : (Jvm.Cond.code ({ cls := "NameSeeker$Text", name := "firstFault", desc := "()I" } : Jvm.MethodName) prog_9_method_6_code (5 : Nat) (Option.some Jvm.ClassFile.FieldType.int)) ∈ TB := tbI 518 rfl rfl
set_option maxRecDepth 100000 in
theorem tb_519 : (Jvm.Cond.methodLink "NameSeeker$Text" (23 : Nat) ({ cls := "NameSeeker$Text", name := "behindItem", desc := "(I)I" } : Jvm.MethodName)) ∈ TB := tbI 519 rfl rfl
set_option maxRecDepth 100000 in
theorem tb_520 : (Jvm.Cond.methodLink "NameSeekerLaw" (40 : Nat) ({ cls := "NameSeeker", name := "lay", desc := "()I" } : Jvm.MethodName)) ∈ TB := tbI 520 rfl rfl
set_option maxRecDepth 100000 in
theorem tb_521 : (Jvm.Cond.instanceMethod ({ cls := "NameSeeker", name := "lay", desc := "()I" } : Jvm.MethodName)) ∈ TB := tbI 521 rfl rfl
set_option maxRecDepth 100000 in
theorem tb_522 : (Jvm.Cond.selects "NameSeeker" ({ cls := "NameSeeker", name := "lay", desc := "()I" } : Jvm.MethodName) ({ cls := "NameSeeker", name := "lay", desc := "()I" } : Jvm.MethodName)) ∈ TB := tbI 522 rfl rfl
set_option maxRecDepth 100000 in
theorem tb_523 : (Jvm.Cond.code ({ cls := "NameSeeker", name := "lay", desc := "()I" } : Jvm.MethodName) prog_1_method_5_code (1 : Nat) (Option.some Jvm.ClassFile.FieldType.int)) ∈ TB := tbI 523 rfl rfl
set_option maxRecDepth 100000 in
theorem tb_524 : (Jvm.Cond.methodLink "NameSeeker" (113 : Nat) ({ cls := "NameSeeker$Text", name := "hasName", desc := "()Z" } : Jvm.MethodName)) ∈ TB := tbI 524 rfl rfl
set_option maxRecDepth 100000 in
theorem tb_525 : (Jvm.Cond.instanceMethod ({ cls := "NameSeeker$Text", name := "hasName", desc := "()Z" } : Jvm.MethodName)) ∈ TB := tbI 525 rfl rfl
set_option maxRecDepth 100000 in
theorem tb_526 : (Jvm.Cond.selects "NameSeeker$Text" ({ cls := "NameSeeker$Text", name := "hasName", desc := "()Z" } : Jvm.MethodName) ({ cls := "NameSeeker$Text", name := "hasName", desc := "()Z" } : Jvm.MethodName)) ∈ TB := tbI 526 rfl rfl
set_option maxRecDepth 100000 in
theorem tb_527 : (Jvm.Cond.code ({ cls := "NameSeeker$Text", name := "hasName", desc := "()Z" } : Jvm.MethodName) prog_9_method_7_code (2 : Nat) (Option.some Jvm.ClassFile.FieldType.boolean)) ∈ TB := tbI 527 rfl rfl
set_option maxRecDepth 100000 in
theorem tb_528 : (Jvm.Cond.methodLink "NameSeekerLaw" (116 : Nat) ({ cls := "NameSeekerLaw", name := "types", desc := "(LNameSeeker;[III)Z" } : Jvm.MethodName)) ∈ TB := tbI 528 rfl rfl
set_option maxRecDepth 100000 in
theorem tb_529 : (Jvm.Cond.static ({ cls := "NameSeekerLaw", name := "types", desc := "(LNameSeeker;[III)Z" } : Jvm.MethodName)) ∈ TB := tbI 529 rfl rfl
set_option maxRecDepth 100000 in
theorem tb_530 : (Jvm.Cond.code ({ cls := "NameSeekerLaw", name := "types", desc := "(LNameSeeker;[III)Z" } : Jvm.MethodName) method_9_code (7 : Nat) (Option.some Jvm.ClassFile.FieldType.boolean)) ∈ TB := tbI 530 rfl rfl
set_option maxRecDepth 100000 in
theorem tb_531 : (Jvm.Cond.methodLink "NameSeekerLaw" (43 : Nat) ({ cls := "NameSeeker", name := "word", desc := "(I)I" } : Jvm.MethodName)) ∈ TB := tbI 531 rfl rfl
set_option maxRecDepth 100000 in
theorem tb_532 : (Jvm.Cond.instanceMethod ({ cls := "NameSeeker", name := "word", desc := "(I)I" } : Jvm.MethodName)) ∈ TB := tbI 532 rfl rfl
set_option maxRecDepth 100000 in
theorem tb_533 : (Jvm.Cond.selects "NameSeeker" ({ cls := "NameSeeker", name := "word", desc := "(I)I" } : Jvm.MethodName) ({ cls := "NameSeeker", name := "word", desc := "(I)I" } : Jvm.MethodName)) ∈ TB := tbI 533 rfl rfl
set_option maxRecDepth 100000 in
theorem tb_534 : (Jvm.Cond.code ({ cls := "NameSeeker", name := "word", desc := "(I)I" } : Jvm.MethodName) prog_1_method_13_code (2 : Nat) (Option.some Jvm.ClassFile.FieldType.int)) ∈ TB := tbI 534 rfl rfl
set_option maxRecDepth 100000 in
theorem tb_535 : (Jvm.Cond.methodLink "NameSeekerLaw" (123 : Nat) ({ cls := "NameSeekerLaw", name := "each", desc := "(LNameSeeker;[I[J[I)Z" } : Jvm.MethodName)) ∈ TB := tbI 535 rfl rfl
set_option maxRecDepth 100000 in
theorem tb_536 : (Jvm.Cond.static ({ cls := "NameSeekerLaw", name := "each", desc := "(LNameSeeker;[I[J[I)Z" } : Jvm.MethodName)) ∈ TB := tbI 536 rfl rfl
set_option maxRecDepth 100000 in
theorem tb_537 : (Jvm.Cond.code ({ cls := "NameSeekerLaw", name := "each", desc := "(LNameSeeker;[I[J[I)Z" } : Jvm.MethodName) method_13_code (11 : Nat) (Option.some Jvm.ClassFile.FieldType.boolean)) ∈ TB := tbI 537 rfl rfl
set_option maxRecDepth 100000 in
theorem tb_538 : (Jvm.Cond.methodLink "NameSeekerLaw" (73 : Nat) ({ cls := "NameSeeker", name := "score", desc := "(I)I" } : Jvm.MethodName)) ∈ TB := tbI 538 rfl rfl
set_option maxRecDepth 100000 in
theorem tb_539 : (Jvm.Cond.instanceMethod ({ cls := "NameSeeker", name := "score", desc := "(I)I" } : Jvm.MethodName)) ∈ TB := tbI 539 rfl rfl
set_option maxRecDepth 100000 in
theorem tb_540 : (Jvm.Cond.selects "NameSeeker" ({ cls := "NameSeeker", name := "score", desc := "(I)I" } : Jvm.MethodName) ({ cls := "NameSeeker", name := "score", desc := "(I)I" } : Jvm.MethodName)) ∈ TB := tbI 540 rfl rfl
set_option maxRecDepth 100000 in
theorem tb_541 : (Jvm.Cond.code ({ cls := "NameSeeker", name := "score", desc := "(I)I" } : Jvm.MethodName) prog_1_method_19_code (2 : Nat) (Option.some Jvm.ClassFile.FieldType.int)) ∈ TB := tbI 541 rfl rfl
set_option maxRecDepth 100000 in
theorem tb_542 : (Jvm.Cond.methodLink "NameSeeker" (203 : Nat) ({ cls := "NameSeeker", name := "seekScore", desc := "(LNameSeeker$Name;)I" } : Jvm.MethodName)) ∈ TB := tbI 542 rfl rfl
set_option maxRecDepth 100000 in
theorem tb_544 : (Jvm.Cond.instanceMethod ({ cls := "NameSeeker", name := "seekScore", desc := "(LNameSeeker$Name;)I" } : Jvm.MethodName)) ∈ TB := tbI 544 rfl rfl
set_option maxRecDepth 100000 in
theorem tb_545 : (Jvm.Cond.code ({ cls := "NameSeeker", name := "seekScore", desc := "(LNameSeeker$Name;)I" } : Jvm.MethodName) prog_1_method_27_code (6 : Nat) (Option.some Jvm.ClassFile.FieldType.int)) ∈ TB := tbI 545 rfl rfl
set_option maxRecDepth 100000 in
theorem tb_546 : (Jvm.Cond.methodLink "NameSeeker" (259 : Nat) ({ cls := "NameSeeker$Known", name := "placeOf", desc := "(IJI)I" } : Jvm.MethodName)) ∈ TB := tbI 546 rfl rfl
set_option maxRecDepth 100000 in
theorem tb_547 : (Jvm.Cond.static ({ cls := "NameSeeker$Known", name := "placeOf", desc := "(IJI)I" } : Jvm.MethodName)) ∈ TB := tbI 547 rfl rfl
set_option maxRecDepth 100000 in
theorem tb_548 : (Jvm.Cond.code ({ cls := "NameSeeker$Known", name := "placeOf", desc := "(IJI)I" } : Jvm.MethodName) prog_3_method_2_code (4 : Nat) (Option.some Jvm.ClassFile.FieldType.int)) ∈ TB := tbI 548 rfl rfl
set_option maxRecDepth 100000 in
theorem tb_549 : (Jvm.Cond.constantLong "NameSeeker$Known" (32 : Nat) (31 : Int64)) ∈ TB := tbI 549 rfl rfl
set_option maxRecDepth 100000 in
theorem tb_550 : (Jvm.Cond.constantLong "NameSeeker$Known" (34 : Nat) (7 : Int64)) ∈ TB := tbI 550 rfl rfl
set_option maxRecDepth 100000 in
theorem tb_551 : (Jvm.Cond.methodLink "NameSeeker" (263 : Nat) ({ cls := "NameSeeker$Known", name := "holds", desc := "(IIJI)Z" } : Jvm.MethodName)) ∈ TB := tbI 551 rfl rfl
set_option maxRecDepth 100000 in
theorem tb_552 : (Jvm.Cond.instanceMethod ({ cls := "NameSeeker$Known", name := "holds", desc := "(IIJI)Z" } : Jvm.MethodName)) ∈ TB := tbI 552 rfl rfl
set_option maxRecDepth 100000 in
theorem tb_553 : (Jvm.Cond.selects "NameSeeker$Known" ({ cls := "NameSeeker$Known", name := "holds", desc := "(IIJI)Z" } : Jvm.MethodName) ({ cls := "NameSeeker$Known", name := "holds", desc := "(IIJI)Z" } : Jvm.MethodName)) ∈ TB := tbI 553 rfl rfl
set_option maxRecDepth 100000 in
theorem tb_554 : (Jvm.Cond.code ({ cls := "NameSeeker$Known", name := "holds", desc := "(IIJI)Z" } : Jvm.MethodName) prog_3_method_3_code (6 : Nat) (Option.some Jvm.ClassFile.FieldType.boolean)) ∈ TB := tbI 554 rfl rfl
set_option maxRecDepth 100000 in
theorem tb_555 : (Jvm.Cond.methodLink "NameSeeker" (226 : Nat) ({ cls := "NameSeeker$Laying", name := "workOut", desc := "(LNameSeeker$Name;LNameSeeker$Word;LNameSeeker$Scales;)I" } : Jvm.MethodName)) ∈ TB := tbI 555 rfl rfl
set_option maxRecDepth 100000 in
theorem tb_556 : (Jvm.Cond.instanceMethod ({ cls := "NameSeeker$Laying", name := "workOut", desc := "(LNameSeeker$Name;LNameSeeker$Word;LNameSeeker$Scales;)I" } : Jvm.MethodName)) ∈ TB := tbI 556 rfl rfl
set_option maxRecDepth 100000 in
theorem tb_557 : (Jvm.Cond.selects "NameSeeker$Laying" ({ cls := "NameSeeker$Laying", name := "workOut", desc := "(LNameSeeker$Name;LNameSeeker$Word;LNameSeeker$Scales;)I" } : Jvm.MethodName) ({ cls := "NameSeeker$Laying", name := "workOut", desc := "(LNameSeeker$Name;LNameSeeker$Word;LNameSeeker$Scales;)I" } : Jvm.MethodName)) ∈ TB := tbI 557 rfl rfl
set_option maxRecDepth 100000 in
theorem tb_558 : (Jvm.Cond.code ({ cls := "NameSeeker$Laying", name := "workOut", desc := "(LNameSeeker$Name;LNameSeeker$Word;LNameSeeker$Scales;)I" } : Jvm.MethodName) prog_4_method_2_code (6 : Nat) (Option.some Jvm.ClassFile.FieldType.int)) ∈ TB := tbI 558 rfl rfl
set_option maxRecDepth 100000 in
theorem tb_559 : (Jvm.Cond.methodLink "NameSeeker$Laying" (32 : Nat) ({ cls := "NameSeeker$Laying", name := "workOutLetter", desc := "(LNameSeeker$Name;LNameSeeker$Word;ILNameSeeker$Scales;)V" } : Jvm.MethodName)) ∈ TB := tbI 559 rfl rfl
set_option maxRecDepth 100000 in
theorem tb_561 : (Jvm.Cond.instanceMethod ({ cls := "NameSeeker$Laying", name := "workOutLetter", desc := "(LNameSeeker$Name;LNameSeeker$Word;ILNameSeeker$Scales;)V" } : Jvm.MethodName)) ∈ TB := tbI 561 rfl rfl
set_option maxRecDepth 100000 in
theorem tb_562 : (Jvm.Cond.code ({ cls := "NameSeeker$Laying", name := "workOutLetter", desc := "(LNameSeeker$Name;LNameSeeker$Word;ILNameSeeker$Scales;)V" } : Jvm.MethodName) prog_4_method_3_code (6 : Nat) (Option.none : Option Jvm.ClassFile.FieldType)) ∈ TB := tbI 562 rfl rfl
set_option maxRecDepth 100000 in
theorem tb_563 : (Jvm.Cond.methodLink "NameSeeker$Laying" (47 : Nat) ({ cls := "NameSeeker$Scales", name := "ofPlace", desc := "(LNameSeeker$Name;I)I" } : Jvm.MethodName)) ∈ TB := tbI 563 rfl rfl
set_option maxRecDepth 100000 in
theorem tb_564 : (Jvm.Cond.instanceMethod ({ cls := "NameSeeker$Scales", name := "ofPlace", desc := "(LNameSeeker$Name;I)I" } : Jvm.MethodName)) ∈ TB := tbI 564 rfl rfl
set_option maxRecDepth 100000 in
theorem tb_565 : (Jvm.Cond.selects "NameSeeker$Scales" ({ cls := "NameSeeker$Scales", name := "ofPlace", desc := "(LNameSeeker$Name;I)I" } : Jvm.MethodName) ({ cls := "NameSeeker$Scales", name := "ofPlace", desc := "(LNameSeeker$Name;I)I" } : Jvm.MethodName)) ∈ TB := tbI 565 rfl rfl
set_option maxRecDepth 100000 in
theorem tb_566 : (Jvm.Cond.code ({ cls := "NameSeeker$Scales", name := "ofPlace", desc := "(LNameSeeker$Name;I)I" } : Jvm.MethodName) prog_8_method_6_code (4 : Nat) (Option.some Jvm.ClassFile.FieldType.int)) ∈ TB := tbI 566 rfl rfl
set_option maxRecDepth 100000 in
theorem tb_567 : (Jvm.Cond.methodLink "NameSeeker$Laying" (53 : Nat) ({ cls := "NameSeeker$Laying", name := "workOutNext", desc := "(LNameSeeker$Name;IILNameSeeker$Scales;)V" } : Jvm.MethodName)) ∈ TB := tbI 567 rfl rfl
set_option maxRecDepth 100000 in
theorem tb_569 : (Jvm.Cond.instanceMethod ({ cls := "NameSeeker$Laying", name := "workOutNext", desc := "(LNameSeeker$Name;IILNameSeeker$Scales;)V" } : Jvm.MethodName)) ∈ TB := tbI 569 rfl rfl
set_option maxRecDepth 100000 in
theorem tb_570 : (Jvm.Cond.code ({ cls := "NameSeeker$Laying", name := "workOutNext", desc := "(LNameSeeker$Name;IILNameSeeker$Scales;)V" } : Jvm.MethodName) prog_4_method_4_code (9 : Nat) (Option.none : Option Jvm.ClassFile.FieldType)) ∈ TB := tbI 570 rfl rfl
set_option maxRecDepth 100000 in
theorem tb_571 : (Jvm.Cond.methodLink "NameSeeker$Laying" (57 : Nat) ({ cls := "NameSeeker$Scales", name := "ofStep", desc := "(LNameSeeker$Name;II)I" } : Jvm.MethodName)) ∈ TB := tbI 571 rfl rfl
set_option maxRecDepth 100000 in
theorem tb_572 : (Jvm.Cond.instanceMethod ({ cls := "NameSeeker$Scales", name := "ofStep", desc := "(LNameSeeker$Name;II)I" } : Jvm.MethodName)) ∈ TB := tbI 572 rfl rfl
set_option maxRecDepth 100000 in
theorem tb_573 : (Jvm.Cond.selects "NameSeeker$Scales" ({ cls := "NameSeeker$Scales", name := "ofStep", desc := "(LNameSeeker$Name;II)I" } : Jvm.MethodName) ({ cls := "NameSeeker$Scales", name := "ofStep", desc := "(LNameSeeker$Name;II)I" } : Jvm.MethodName)) ∈ TB := tbI 573 rfl rfl
set_option maxRecDepth 100000 in
theorem tb_574 : (Jvm.Cond.code ({ cls := "NameSeeker$Scales", name := "ofStep", desc := "(LNameSeeker$Name;II)I" } : Jvm.MethodName) prog_8_method_7_code (4 : Nat) (Option.some Jvm.ClassFile.FieldType.int)) ∈ TB := tbI 574 rfl rfl
set_option maxRecDepth 100000 in
theorem tb_575 : (Jvm.Cond.methodLink "NameSeeker" (276 : Nat) ({ cls := "NameSeeker$Known", name := "put", desc := "(IIJII)V" } : Jvm.MethodName)) ∈ TB := tbI 575 rfl rfl
set_option maxRecDepth 100000 in
theorem tb_576 : (Jvm.Cond.instanceMethod ({ cls := "NameSeeker$Known", name := "put", desc := "(IIJII)V" } : Jvm.MethodName)) ∈ TB := tbI 576 rfl rfl
set_option maxRecDepth 100000 in
theorem tb_577 : (Jvm.Cond.selects "NameSeeker$Known" ({ cls := "NameSeeker$Known", name := "put", desc := "(IIJII)V" } : Jvm.MethodName) ({ cls := "NameSeeker$Known", name := "put", desc := "(IIJII)V" } : Jvm.MethodName)) ∈ TB := tbI 577 rfl rfl
set_option maxRecDepth 100000 in
theorem tb_578 : (Jvm.Cond.code ({ cls := "NameSeeker$Known", name := "put", desc := "(IIJII)V" } : Jvm.MethodName) prog_3_method_4_code (7 : Nat) (Option.none : Option Jvm.ClassFile.FieldType)) ∈ TB := tbI 578 rfl rfl
set_option maxRecDepth 100000 in
theorem tb_579 : (Jvm.Cond.methodLink "NameSeekerLaw" (79 : Nat) ({ cls := "NameSeeker", name := "ways", desc := "(I)I" } : Jvm.MethodName)) ∈ TB := tbI 579 rfl rfl
set_option maxRecDepth 100000 in
theorem tb_580 : (Jvm.Cond.instanceMethod ({ cls := "NameSeeker", name := "ways", desc := "(I)I" } : Jvm.MethodName)) ∈ TB := tbI 580 rfl rfl
set_option maxRecDepth 100000 in
theorem tb_581 : (Jvm.Cond.selects "NameSeeker" ({ cls := "NameSeeker", name := "ways", desc := "(I)I" } : Jvm.MethodName) ({ cls := "NameSeeker", name := "ways", desc := "(I)I" } : Jvm.MethodName)) ∈ TB := tbI 581 rfl rfl
set_option maxRecDepth 100000 in
theorem tb_582 : (Jvm.Cond.code ({ cls := "NameSeeker", name := "ways", desc := "(I)I" } : Jvm.MethodName) prog_1_method_22_code (2 : Nat) (Option.some Jvm.ClassFile.FieldType.int)) ∈ TB := tbI 582 rfl rfl
set_option maxRecDepth 100000 in
theorem tb_583 : (Jvm.Cond.methodLink "NameSeekerLaw" (82 : Nat) ({ cls := "NameSeekerLaw", name := "worth", desc := "(LNameSeeker;[I[JI[I)I" } : Jvm.MethodName)) ∈ TB := tbI 583 rfl rfl
set_option maxRecDepth 100000 in
theorem tb_584 : (Jvm.Cond.static ({ cls := "NameSeekerLaw", name := "worth", desc := "(LNameSeeker;[I[JI[I)I" } : Jvm.MethodName)) ∈ TB := tbI 584 rfl rfl
set_option maxRecDepth 100000 in
theorem tb_585 : (Jvm.Cond.code ({ cls := "NameSeekerLaw", name := "worth", desc := "(LNameSeeker;[I[JI[I)I" } : Jvm.MethodName) method_12_code (9 : Nat) (Option.some Jvm.ClassFile.FieldType.int)) ∈ TB := tbI 585 rfl rfl
set_option maxRecDepth 100000 in
theorem tb_586 : (Jvm.Cond.methodLink "NameSeekerLaw" (58 : Nat) ({ cls := "NameSeeker", name := "best", desc := "(II)I" } : Jvm.MethodName)) ∈ TB := tbI 586 rfl rfl
set_option maxRecDepth 100000 in
theorem tb_587 : (Jvm.Cond.instanceMethod ({ cls := "NameSeeker", name := "best", desc := "(II)I" } : Jvm.MethodName)) ∈ TB := tbI 587 rfl rfl
set_option maxRecDepth 100000 in
theorem tb_588 : (Jvm.Cond.selects "NameSeeker" ({ cls := "NameSeeker", name := "best", desc := "(II)I" } : Jvm.MethodName) ({ cls := "NameSeeker", name := "best", desc := "(II)I" } : Jvm.MethodName)) ∈ TB := tbI 588 rfl rfl
set_option maxRecDepth 100000 in
theorem tb_589 : (Jvm.Cond.code ({ cls := "NameSeeker", name := "best", desc := "(II)I" } : Jvm.MethodName) prog_1_method_21_code (3 : Nat) (Option.some Jvm.ClassFile.FieldType.int)) ∈ TB := tbI 589 rfl rfl
set_option maxRecDepth 100000 in
theorem tb_590 : (Jvm.Cond.methodLink "NameSeeker" (230 : Nat) ({ cls := "NameSeeker$Laying", name := "bestPlace", desc := "(I)I" } : Jvm.MethodName)) ∈ TB := tbI 590 rfl rfl
set_option maxRecDepth 100000 in
theorem tb_591 : (Jvm.Cond.instanceMethod ({ cls := "NameSeeker$Laying", name := "bestPlace", desc := "(I)I" } : Jvm.MethodName)) ∈ TB := tbI 591 rfl rfl
set_option maxRecDepth 100000 in
theorem tb_592 : (Jvm.Cond.selects "NameSeeker$Laying" ({ cls := "NameSeeker$Laying", name := "bestPlace", desc := "(I)I" } : Jvm.MethodName) ({ cls := "NameSeeker$Laying", name := "bestPlace", desc := "(I)I" } : Jvm.MethodName)) ∈ TB := tbI 592 rfl rfl
set_option maxRecDepth 100000 in
theorem tb_593 : (Jvm.Cond.code ({ cls := "NameSeeker$Laying", name := "bestPlace", desc := "(I)I" } : Jvm.MethodName) prog_4_method_5_code (4 : Nat) (Option.some Jvm.ClassFile.FieldType.int)) ∈ TB := tbI 593 rfl rfl
set_option maxRecDepth 100000 in
theorem tb_594 : (Jvm.Cond.methodLink "NameSeekerLaw" (62 : Nat) ({ cls := "NameSeekerLaw", name := "alike", desc := "([I[JIII)Z" } : Jvm.MethodName)) ∈ TB := tbI 594 rfl rfl
set_option maxRecDepth 100000 in
theorem tb_595 : (Jvm.Cond.static ({ cls := "NameSeekerLaw", name := "alike", desc := "([I[JIII)Z" } : Jvm.MethodName)) ∈ TB := tbI 595 rfl rfl
set_option maxRecDepth 100000 in
theorem tb_596 : (Jvm.Cond.code ({ cls := "NameSeekerLaw", name := "alike", desc := "([I[JIII)Z" } : Jvm.MethodName) method_10_code (6 : Nat) (Option.some Jvm.ClassFile.FieldType.boolean)) ∈ TB := tbI 596 rfl rfl
set_option maxRecDepth 100000 in
theorem tb_597 : (Jvm.Cond.methodLink "NameSeekerLaw" (55 : Nat) ({ cls := "NameSeekerLaw", name := "low", desc := "(I)I" } : Jvm.MethodName)) ∈ TB := tbI 597 rfl rfl
set_option maxRecDepth 100000 in
theorem tb_598 : (Jvm.Cond.static ({ cls := "NameSeekerLaw", name := "low", desc := "(I)I" } : Jvm.MethodName)) ∈ TB := tbI 598 rfl rfl
set_option maxRecDepth 100000 in
theorem tb_599 : (Jvm.Cond.code ({ cls := "NameSeekerLaw", name := "low", desc := "(I)I" } : Jvm.MethodName) method_8_code (1 : Nat) (Option.some Jvm.ClassFile.FieldType.int)) ∈ TB := tbI 599 rfl rfl
set_option maxRecDepth 100000 in
theorem tb_600 : (Jvm.Cond.methodLink "NameSeekerLaw" (66 : Nat) ({ cls := "NameSeekerLaw", name := "isBeginning", desc := "([JII)Z" } : Jvm.MethodName)) ∈ TB := tbI 600 rfl rfl
set_option maxRecDepth 100000 in
theorem tb_601 : (Jvm.Cond.static ({ cls := "NameSeekerLaw", name := "isBeginning", desc := "([JII)Z" } : Jvm.MethodName)) ∈ TB := tbI 601 rfl rfl
set_option maxRecDepth 100000 in
theorem tb_602 : (Jvm.Cond.code ({ cls := "NameSeekerLaw", name := "isBeginning", desc := "([JII)Z" } : Jvm.MethodName) method_11_code (5 : Nat) (Option.some Jvm.ClassFile.FieldType.boolean)) ∈ TB := tbI 602 rfl rfl
set_option maxRecDepth 100000 in
theorem tb_603 : (Jvm.Cond.methodLink "NameSeekerLaw" (86 : Nat) ({ cls := "NameSeekerLaw", name := "bits", desc := "(I)I" } : Jvm.MethodName)) ∈ TB := tbI 603 rfl rfl
set_option maxRecDepth 100000 in
theorem tb_604 : (Jvm.Cond.static ({ cls := "NameSeekerLaw", name := "bits", desc := "(I)I" } : Jvm.MethodName)) ∈ TB := tbI 604 rfl rfl
set_option maxRecDepth 100000 in
theorem tb_605 : (Jvm.Cond.code ({ cls := "NameSeekerLaw", name := "bits", desc := "(I)I" } : Jvm.MethodName) method_14_code (3 : Nat) (Option.some Jvm.ClassFile.FieldType.int)) ∈ TB := tbI 605 rfl rfl
set_option maxRecDepth 100000 in
theorem tb_606 : (Jvm.Cond.methodLink "NameSeekerLaw" (127 : Nat) ({ cls := "NameSeekerLaw", name := "ordered", desc := "(LNameSeeker;[I)Z" } : Jvm.MethodName)) ∈ TB := tbI 606 rfl rfl
set_option maxRecDepth 100000 in
theorem tb_607 : (Jvm.Cond.static ({ cls := "NameSeekerLaw", name := "ordered", desc := "(LNameSeeker;[I)Z" } : Jvm.MethodName)) ∈ TB := tbI 607 rfl rfl
set_option maxRecDepth 100000 in
theorem tb_608 : (Jvm.Cond.code ({ cls := "NameSeekerLaw", name := "ordered", desc := "(LNameSeeker;[I)Z" } : Jvm.MethodName) method_15_code (15 : Nat) (Option.some Jvm.ClassFile.FieldType.boolean)) ∈ TB := tbI 608 rfl rfl
set_option maxRecDepth 100000 in
theorem tb_609 : (Jvm.Cond.methodLink "NameSeekerLaw" (89 : Nat) ({ cls := "NameSeeker", name := "list", desc := "(I)I" } : Jvm.MethodName)) ∈ TB := tbI 609 rfl rfl
set_option maxRecDepth 100000 in
theorem tb_610 : (Jvm.Cond.instanceMethod ({ cls := "NameSeeker", name := "list", desc := "(I)I" } : Jvm.MethodName)) ∈ TB := tbI 610 rfl rfl
set_option maxRecDepth 100000 in
theorem tb_611 : (Jvm.Cond.selects "NameSeeker" ({ cls := "NameSeeker", name := "list", desc := "(I)I" } : Jvm.MethodName) ({ cls := "NameSeeker", name := "list", desc := "(I)I" } : Jvm.MethodName)) ∈ TB := tbI 611 rfl rfl
set_option maxRecDepth 100000 in
theorem tb_612 : (Jvm.Cond.code ({ cls := "NameSeeker", name := "list", desc := "(I)I" } : Jvm.MethodName) prog_1_method_20_code (2 : Nat) (Option.some Jvm.ClassFile.FieldType.int)) ∈ TB := tbI 612 rfl rfl
set_option maxRecDepth 100000 in
theorem tb_613 : (Jvm.Cond.methodLink "NameSeeker" (207 : Nat) ({ cls := "NameSeeker", name := "seekScores", desc := "()V" } : Jvm.MethodName)) ∈ TB := tbI 613 rfl rfl
set_option maxRecDepth 100000 in
theorem tb_615 : (Jvm.Cond.instanceMethod ({ cls := "NameSeeker", name := "seekScores", desc := "()V" } : Jvm.MethodName)) ∈ TB := tbI 615 rfl rfl
set_option maxRecDepth 100000 in
theorem tb_616 : (Jvm.Cond.code ({ cls := "NameSeeker", name := "seekScores", desc := "()V" } : Jvm.MethodName) prog_1_method_28_code (2 : Nat) (Option.none : Option Jvm.ClassFile.FieldType)) ∈ TB := tbI 616 rfl rfl
set_option maxRecDepth 100000 in
theorem tb_617 : (Jvm.Cond.methodLink "NameSeeker" (210 : Nat) ({ cls := "NameSeeker$Ranking", name := "rank", desc := "(LNameSeeker$Lot;)V" } : Jvm.MethodName)) ∈ TB := tbI 617 rfl rfl
set_option maxRecDepth 100000 in
theorem tb_618 : (Jvm.Cond.instanceMethod ({ cls := "NameSeeker$Ranking", name := "rank", desc := "(LNameSeeker$Lot;)V" } : Jvm.MethodName)) ∈ TB := tbI 618 rfl rfl
set_option maxRecDepth 100000 in
theorem tb_619 : (Jvm.Cond.selects "NameSeeker$Ranking" ({ cls := "NameSeeker$Ranking", name := "rank", desc := "(LNameSeeker$Lot;)V" } : Jvm.MethodName) ({ cls := "NameSeeker$Ranking", name := "rank", desc := "(LNameSeeker$Lot;)V" } : Jvm.MethodName)) ∈ TB := tbI 619 rfl rfl
set_option maxRecDepth 100000 in
theorem tb_620 : (Jvm.Cond.code ({ cls := "NameSeeker$Ranking", name := "rank", desc := "(LNameSeeker$Lot;)V" } : Jvm.MethodName) prog_7_method_2_code (3 : Nat) (Option.none : Option Jvm.ClassFile.FieldType)) ∈ TB := tbI 620 rfl rfl
set_option maxRecDepth 100000 in
theorem tb_621 : (Jvm.Cond.methodLink "NameSeeker$Ranking" (25 : Nat) ({ cls := "NameSeeker$Ranking", name := "insert", desc := "(LNameSeeker$Lot;I)V" } : Jvm.MethodName)) ∈ TB := tbI 621 rfl rfl
set_option maxRecDepth 100000 in
theorem tb_623 : (Jvm.Cond.instanceMethod ({ cls := "NameSeeker$Ranking", name := "insert", desc := "(LNameSeeker$Lot;I)V" } : Jvm.MethodName)) ∈ TB := tbI 623 rfl rfl
set_option maxRecDepth 100000 in
theorem tb_624 : (Jvm.Cond.code ({ cls := "NameSeeker$Ranking", name := "insert", desc := "(LNameSeeker$Lot;I)V" } : Jvm.MethodName) prog_7_method_3_code (4 : Nat) (Option.none : Option Jvm.ClassFile.FieldType)) ∈ TB := tbI 624 rfl rfl
set_option maxRecDepth 100000 in
theorem tb_625 : (Jvm.Cond.methodLink "NameSeeker$Ranking" (29 : Nat) ({ cls := "NameSeeker$Ranking", name := "isAhead", desc := "(LNameSeeker$Lot;II)Z" } : Jvm.MethodName)) ∈ TB := tbI 625 rfl rfl
set_option maxRecDepth 100000 in
theorem tb_627 : (Jvm.Cond.instanceMethod ({ cls := "NameSeeker$Ranking", name := "isAhead", desc := "(LNameSeeker$Lot;II)Z" } : Jvm.MethodName)) ∈ TB := tbI 627 rfl rfl
set_option maxRecDepth 100000 in
theorem tb_628 : (Jvm.Cond.code ({ cls := "NameSeeker$Ranking", name := "isAhead", desc := "(LNameSeeker$Lot;II)Z" } : Jvm.MethodName) prog_7_method_5_code (6 : Nat) (Option.some Jvm.ClassFile.FieldType.boolean)) ∈ TB := tbI 628 rfl rfl
set_option maxRecDepth 100000 in
theorem tb_629 : (Jvm.Cond.methodLink "NameSeeker" (218 : Nat) ({ cls := "NameSeeker$Asked", name := "add", desc := "(J)V" } : Jvm.MethodName)) ∈ TB := tbI 629 rfl rfl
set_option maxRecDepth 100000 in
theorem tb_630 : (Jvm.Cond.instanceMethod ({ cls := "NameSeeker$Asked", name := "add", desc := "(J)V" } : Jvm.MethodName)) ∈ TB := tbI 630 rfl rfl
set_option maxRecDepth 100000 in
theorem tb_631 : (Jvm.Cond.selects "NameSeeker$Asked" ({ cls := "NameSeeker$Asked", name := "add", desc := "(J)V" } : Jvm.MethodName) ({ cls := "NameSeeker$Asked", name := "add", desc := "(J)V" } : Jvm.MethodName)) ∈ TB := tbI 631 rfl rfl
set_option maxRecDepth 100000 in
theorem tb_632 : (Jvm.Cond.code ({ cls := "NameSeeker$Asked", name := "add", desc := "(J)V" } : Jvm.MethodName) prog_2_method_2_code (4 : Nat) (Option.none : Option Jvm.ClassFile.FieldType)) ∈ TB := tbI 632 rfl rfl
set_option maxRecDepth 100000 in
theorem tb_636 : (Jvm.Cond.methodLink "NameSeekerLaw" (92 : Nat) ({ cls := "NameSeeker", name := "asked", desc := "(I)I" } : Jvm.MethodName)) ∈ TB := tbI 636 rfl rfl
set_option maxRecDepth 100000 in
theorem tb_637 : (Jvm.Cond.instanceMethod ({ cls := "NameSeeker", name := "asked", desc := "(I)I" } : Jvm.MethodName)) ∈ TB := tbI 637 rfl rfl
set_option maxRecDepth 100000 in
theorem tb_638 : (Jvm.Cond.selects "NameSeeker" ({ cls := "NameSeeker", name := "asked", desc := "(I)I" } : Jvm.MethodName) ({ cls := "NameSeeker", name := "asked", desc := "(I)I" } : Jvm.MethodName)) ∈ TB := tbI 638 rfl rfl
set_option maxRecDepth 100000 in
theorem tb_639 : (Jvm.Cond.code ({ cls := "NameSeeker", name := "asked", desc := "(I)I" } : Jvm.MethodName) prog_1_method_24_code (2 : Nat) (Option.some Jvm.ClassFile.FieldType.int)) ∈ TB := tbI 639 rfl rfl
set_option maxRecDepth 100000 in
theorem tb_640 : (Jvm.Cond.methodLink "NameSeekerLaw" (131 : Nat) ({ cls := "NameSeekerLaw", name := "first", desc := "(LNameSeeker;I[I)Z" } : Jvm.MethodName)) ∈ TB := tbI 640 rfl rfl
set_option maxRecDepth 100000 in
theorem tb_641 : (Jvm.Cond.static ({ cls := "NameSeekerLaw", name := "first", desc := "(LNameSeeker;I[I)Z" } : Jvm.MethodName)) ∈ TB := tbI 641 rfl rfl
set_option maxRecDepth 100000 in
theorem tb_642 : (Jvm.Cond.code ({ cls := "NameSeekerLaw", name := "first", desc := "(LNameSeeker;I[I)Z" } : Jvm.MethodName) method_16_code (6 : Nat) (Option.some Jvm.ClassFile.FieldType.boolean)) ∈ TB := tbI 642 rfl rfl
set_option maxRecDepth 100000 in
theorem tb_643 : (Jvm.Cond.methodLink "NameSeekerLaw" (98 : Nat) ({ cls := "NameSeeker", name := "brief", desc := "(I)I" } : Jvm.MethodName)) ∈ TB := tbI 643 rfl rfl
set_option maxRecDepth 100000 in
theorem tb_644 : (Jvm.Cond.instanceMethod ({ cls := "NameSeeker", name := "brief", desc := "(I)I" } : Jvm.MethodName)) ∈ TB := tbI 644 rfl rfl
set_option maxRecDepth 100000 in
theorem tb_645 : (Jvm.Cond.selects "NameSeeker" ({ cls := "NameSeeker", name := "brief", desc := "(I)I" } : Jvm.MethodName) ({ cls := "NameSeeker", name := "brief", desc := "(I)I" } : Jvm.MethodName)) ∈ TB := tbI 645 rfl rfl
set_option maxRecDepth 100000 in
theorem tb_646 : (Jvm.Cond.code ({ cls := "NameSeeker", name := "brief", desc := "(I)I" } : Jvm.MethodName) prog_1_method_25_code (4 : Nat) (Option.some Jvm.ClassFile.FieldType.int)) ∈ TB := tbI 646 rfl rfl
set_option maxRecDepth 100000 in
theorem tb_647 : (Jvm.Cond.methodLink "NameSeeker" (248 : Nat) ({ cls := "NameSeeker", name := "isFirstBy", desc := "(III)Z" } : Jvm.MethodName)) ∈ TB := tbI 647 rfl rfl
set_option maxRecDepth 100000 in
theorem tb_649 : (Jvm.Cond.instanceMethod ({ cls := "NameSeeker", name := "isFirstBy", desc := "(III)Z" } : Jvm.MethodName)) ∈ TB := tbI 649 rfl rfl
set_option maxRecDepth 100000 in
theorem tb_650 : (Jvm.Cond.code ({ cls := "NameSeeker", name := "isFirstBy", desc := "(III)Z" } : Jvm.MethodName) prog_1_method_29_code (5 : Nat) (Option.some Jvm.ClassFile.FieldType.boolean)) ∈ TB := tbI 650 rfl rfl
set_option maxRecDepth 100000 in
theorem tb_651 : (Jvm.Cond.methodLink "NameSeeker" (281 : Nat) ({ cls := "NameSeeker$Ranking", name := "isFirst", desc := "(LNameSeeker$Lot;I)Z" } : Jvm.MethodName)) ∈ TB := tbI 651 rfl rfl
set_option maxRecDepth 100000 in
theorem tb_652 : (Jvm.Cond.instanceMethod ({ cls := "NameSeeker$Ranking", name := "isFirst", desc := "(LNameSeeker$Lot;I)Z" } : Jvm.MethodName)) ∈ TB := tbI 652 rfl rfl
set_option maxRecDepth 100000 in
theorem tb_653 : (Jvm.Cond.selects "NameSeeker$Ranking" ({ cls := "NameSeeker$Ranking", name := "isFirst", desc := "(LNameSeeker$Lot;I)Z" } : Jvm.MethodName) ({ cls := "NameSeeker$Ranking", name := "isFirst", desc := "(LNameSeeker$Lot;I)Z" } : Jvm.MethodName)) ∈ TB := tbI 653 rfl rfl
set_option maxRecDepth 100000 in
theorem tb_654 : (Jvm.Cond.code ({ cls := "NameSeeker$Ranking", name := "isFirst", desc := "(LNameSeeker$Lot;I)Z" } : Jvm.MethodName) prog_7_method_4_code (4 : Nat) (Option.some Jvm.ClassFile.FieldType.boolean)) ∈ TB := tbI 654 rfl rfl
set_option maxRecDepth 100000 in
theorem tb_655 : (Jvm.Cond.methodLink "NameSeekerLaw" (101 : Nat) ({ cls := "NameSeeker", name := "keep", desc := "()I" } : Jvm.MethodName)) ∈ TB := tbI 655 rfl rfl
set_option maxRecDepth 100000 in
theorem tb_656 : (Jvm.Cond.instanceMethod ({ cls := "NameSeeker", name := "keep", desc := "()I" } : Jvm.MethodName)) ∈ TB := tbI 656 rfl rfl
set_option maxRecDepth 100000 in
theorem tb_657 : (Jvm.Cond.selects "NameSeeker" ({ cls := "NameSeeker", name := "keep", desc := "()I" } : Jvm.MethodName) ({ cls := "NameSeeker", name := "keep", desc := "()I" } : Jvm.MethodName)) ∈ TB := tbI 657 rfl rfl
set_option maxRecDepth 100000 in
theorem tb_658 : (Jvm.Cond.code ({ cls := "NameSeeker", name := "keep", desc := "()I" } : Jvm.MethodName) prog_1_method_30_code (1 : Nat) (Option.some Jvm.ClassFile.FieldType.int)) ∈ TB := tbI 658 rfl rfl
set_option maxRecDepth 100000 in
theorem tb_659 : (Jvm.Cond.methodLink "NameSeeker" (285 : Nat) ({ cls := "NameSeeker$Word", name := "copy", desc := "(LNameSeeker$Word;)V" } : Jvm.MethodName)) ∈ TB := tbI 659 rfl rfl
set_option maxRecDepth 100000 in
theorem tb_660 : (Jvm.Cond.instanceMethod ({ cls := "NameSeeker$Word", name := "copy", desc := "(LNameSeeker$Word;)V" } : Jvm.MethodName)) ∈ TB := tbI 660 rfl rfl
set_option maxRecDepth 100000 in
theorem tb_661 : (Jvm.Cond.selects "NameSeeker$Word" ({ cls := "NameSeeker$Word", name := "copy", desc := "(LNameSeeker$Word;)V" } : Jvm.MethodName) ({ cls := "NameSeeker$Word", name := "copy", desc := "(LNameSeeker$Word;)V" } : Jvm.MethodName)) ∈ TB := tbI 661 rfl rfl
set_option maxRecDepth 100000 in
theorem tb_662 : (Jvm.Cond.code ({ cls := "NameSeeker$Word", name := "copy", desc := "(LNameSeeker$Word;)V" } : Jvm.MethodName) prog_10_method_5_code (3 : Nat) (Option.none : Option Jvm.ClassFile.FieldType)) ∈ TB := tbI 662 rfl rfl
set_option maxRecDepth 100000 in
theorem tb_663 : (Jvm.Cond.methodLink "NameSeekerLaw" (104 : Nat) ({ cls := "NameSeeker", name := "back", desc := "()I" } : Jvm.MethodName)) ∈ TB := tbI 663 rfl rfl
set_option maxRecDepth 100000 in
theorem tb_664 : (Jvm.Cond.instanceMethod ({ cls := "NameSeeker", name := "back", desc := "()I" } : Jvm.MethodName)) ∈ TB := tbI 664 rfl rfl
set_option maxRecDepth 100000 in
theorem tb_665 : (Jvm.Cond.selects "NameSeeker" ({ cls := "NameSeeker", name := "back", desc := "()I" } : Jvm.MethodName) ({ cls := "NameSeeker", name := "back", desc := "()I" } : Jvm.MethodName)) ∈ TB := tbI 665 rfl rfl
set_option maxRecDepth 100000 in
theorem tb_666 : (Jvm.Cond.code ({ cls := "NameSeeker", name := "back", desc := "()I" } : Jvm.MethodName) prog_1_method_31_code (1 : Nat) (Option.some Jvm.ClassFile.FieldType.int)) ∈ TB := tbI 666 rfl rfl
