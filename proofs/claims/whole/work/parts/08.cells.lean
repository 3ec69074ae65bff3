theorem w1_0 : Cond.initialized "HalfByFiveLaw" ∈ wU := wU_t1 0 rfl rfl
theorem w1_1 : Cond.initialized "HalfByFive" ∈ wU := wU_t1 1 rfl rfl
theorem w1_2 : Cond.initialized "HalfByFive$Market" ∈ wU := wU_t1 2 rfl rfl
theorem w1_3 : Cond.initialized "java/util/Arrays" ∈ wU := wU_t1 3 rfl rfl
theorem w1_4 : Cond.initialized "HalfByFive$Day" ∈ wU := wU_t1 4 rfl rfl
theorem w1_5 : Cond.initialized "HalfByFive$Plain" ∈ wU := wU_t1 5 rfl rfl
theorem w1_6 : Cond.initialized "HalfByFive$Waits" ∈ wU := wU_t1 6 rfl rfl
theorem w1_7 : Cond.initialized "HalfByFive$Cook" ∈ wU := wU_t1 7 rfl rfl
theorem w1_8 : Cond.initialized "HalfByFive$School" ∈ wU := wU_t1 8 rfl rfl
theorem w1_9 : Cond.initialized "HalfByFive$Bag" ∈ wU := wU_t1 9 rfl rfl
theorem w1_10 : Cond.initialized "HalfByFive$Pair" ∈ wU := wU_t1 10 rfl rfl
theorem w1_11 : Cond.initialized "HalfByFive$TwoStalls" ∈ wU := wU_t1 11 rfl rfl
theorem w1_12 : Cond.initialized "HalfByFive$Reader" ∈ wU := wU_t1 12 rfl rfl
theorem w1_13 : Cond.initialized "HalfByFiveModel" ∈ wU := wU_t1 13 rfl rfl
theorem w1_14 : Cond.initialized "java/lang/Math" ∈ wU := wU_t1 14 rfl rfl
theorem w1_15 : Cond.initialized "java/lang/String" ∈ wU := wU_t1 15 rfl rfl
theorem w1_16 : Cond.initialized "java/lang/StringLatin1" ∈ wU := wU_t1 16 rfl rfl
theorem w1_17 : Cond.initialized "jdk/internal/util/Preconditions" ∈ wU := wU_t1 17 rfl rfl
theorem w1_18 : Cond.initialized "java/lang/StringUTF16" ∈ wU := wU_t1 18 rfl rfl
theorem w1_19 : Cond.initialized "java/lang/System" ∈ wU := wU_t1 19 rfl rfl
theorem w1_20 : Cond.initialized "java/lang/Integer" ∈ wU := wU_t1 20 rfl rfl
theorem w1_21 : Cond.classLink "HalfByFiveLaw" 7 "HalfByFive" ∈ wU := wU_t1 21 rfl rfl
theorem w1_22 : Cond.instantiable "HalfByFive" 12 ∈ wU := wU_t1 22 rfl rfl
theorem w1_23 : Cond.methodLink "HalfByFiveLaw" 9 ⟨"HalfByFive", "<init>", "()V"⟩ ∈ wU := wU_t1 23 rfl rfl
theorem w1_24 : Cond.instanceMethod ⟨"HalfByFive", "<init>", "()V"⟩ ∈ wU := wU_t1 24 rfl rfl
theorem w1_25 : Cond.code ⟨"HalfByFive", "<init>", "()V"⟩ prog_1_method_1_code 1 (Option.none : Option Jvm.ClassFile.FieldType) ∈ wU := wU_t1 25 rfl rfl
theorem w1_26 : Cond.methodLink "HalfByFive" 1 ⟨"java/lang/Object", "<init>", "()V"⟩ ∈ wU := wU_t1 26 rfl rfl
theorem w1_27 : Cond.instanceMethod ⟨"java/lang/Object", "<init>", "()V"⟩ ∈ wU := wU_t1 27 rfl rfl
theorem w1_28 : Cond.code ⟨"java/lang/Object", "<init>", "()V"⟩ object_method_1_code 1 (Option.none : Option Jvm.ClassFile.FieldType) ∈ wU := wU_t1 28 rfl rfl
theorem w1_29 : Cond.classLink "HalfByFive" 7 "HalfByFive$Market" ∈ wU := wU_t1 29 rfl rfl
theorem w1_30 : Cond.instantiable "HalfByFive$Market" 17 ∈ wU := wU_t1 30 rfl rfl
theorem w1_31 : Cond.methodLink "HalfByFive" 9 ⟨"HalfByFive$Market", "<init>", "()V"⟩ ∈ wU := wU_t1 31 rfl rfl
theorem w1_32 : Cond.instanceMethod ⟨"HalfByFive$Market", "<init>", "()V"⟩ ∈ wU := wU_t1 32 rfl rfl
theorem w1_33 : Cond.code ⟨"HalfByFive$Market", "<init>", "()V"⟩ prog_5_method_1_code 1 (Option.none : Option Jvm.ClassFile.FieldType) ∈ wU := wU_t1 33 rfl rfl
theorem w1_34 : Cond.methodLink "HalfByFive$Market" 3 ⟨"java/lang/Object", "<init>", "()V"⟩ ∈ wU := wU_t1 34 rfl rfl
theorem w1_35 : Cond.methodLink "HalfByFive$Market" 64 ⟨"java/util/Arrays", "fill", "([II)V"⟩ ∈ wU := wU_t1 35 rfl rfl
theorem w1_36 : Cond.static ⟨"java/util/Arrays", "fill", "([II)V"⟩ ∈ wU := wU_t1 36 rfl rfl
theorem w1_37 : Cond.code ⟨"java/util/Arrays", "fill", "([II)V"⟩ prog_20_method_103_code 4 (Option.none : Option Jvm.ClassFile.FieldType) ∈ wU := wU_t1 37 rfl rfl
theorem w1_38 : Cond.fieldLink "HalfByFive$Market" 11 "HalfByFive$Market" "punnets" "I" ∈ wU := wU_t1 38 rfl rfl
theorem w1_39 : Cond.fieldLinkNest "HalfByFive" 80 "HalfByFive$Market" "punnets" "I" "HalfByFive" ∈ wN := wN_t1 39 rfl rfl
theorem w1_40 : Cond.fieldLinkNest "HalfByFive$Day" 128 "HalfByFive$Market" "punnets" "I" "HalfByFive" ∈ wN := wN_t1 40 rfl rfl
theorem w1_41 : Cond.fieldLink "HalfByFive$Market" 15 "HalfByFive$Market" "heat" "I" ∈ wU := wU_t1 41 rfl rfl
theorem w1_42 : Cond.fieldLinkNest "HalfByFive$Day" 99 "HalfByFive$Market" "heat" "I" "HalfByFive" ∈ wN := wN_t1 42 rfl rfl
theorem w1_43 : Cond.fieldLinkNest "HalfByFive" 263 "HalfByFive$Market" "heat" "I" "HalfByFive" ∈ wN := wN_t1 43 rfl rfl
theorem w1_44 : Cond.fieldLink "HalfByFive$Market" 18 "HalfByFive$Market" "rainHours" "I" ∈ wU := wU_t1 44 rfl rfl
theorem w1_45 : Cond.fieldLinkNest "HalfByFive" 99 "HalfByFive$Market" "rainHours" "I" "HalfByFive" ∈ wN := wN_t1 45 rfl rfl
theorem w1_46 : Cond.fieldLinkNest "HalfByFive$Reader" 90 "HalfByFive$Market" "rainHours" "I" "HalfByFive" ∈ wN := wN_t1 46 rfl rfl
theorem w1_47 : Cond.fieldLink "HalfByFive$Market" 21 "HalfByFive$Market" "size" "I" ∈ wU := wU_t1 47 rfl rfl
theorem w1_48 : Cond.fieldLinkNest "HalfByFive" 73 "HalfByFive$Market" "size" "I" "HalfByFive" ∈ wN := wN_t1 48 rfl rfl
theorem w1_49 : Cond.fieldLinkNest "HalfByFive$Day" 77 "HalfByFive$Market" "size" "I" "HalfByFive" ∈ wN := wN_t1 49 rfl rfl
theorem w1_50 : Cond.fieldLinkNest "HalfByFive$Reader" 78 "HalfByFive$Market" "size" "I" "HalfByFive" ∈ wN := wN_t1 50 rfl rfl
theorem w1_51 : Cond.fieldLink "HalfByFive$Market" 24 "HalfByFive$Market" "totalTakings" "I" ∈ wU := wU_t1 51 rfl rfl
theorem w1_52 : Cond.fieldLinkNest "HalfByFive" 127 "HalfByFive$Market" "totalTakings" "I" "HalfByFive" ∈ wN := wN_t1 52 rfl rfl
theorem w1_53 : Cond.fieldLink "HalfByFive$Market" 27 "HalfByFive$Market" "totalThrown" "I" ∈ wU := wU_t1 53 rfl rfl
theorem w1_54 : Cond.fieldLinkNest "HalfByFive" 133 "HalfByFive$Market" "totalThrown" "I" "HalfByFive" ∈ wN := wN_t1 54 rfl rfl
theorem w1_55 : Cond.fieldLink "HalfByFive$Market" 30 "HalfByFive$Market" "soldSize" "I" ∈ wU := wU_t1 55 rfl rfl
theorem w1_56 : Cond.fieldLinkNest "HalfByFive$Day" 155 "HalfByFive$Market" "soldSize" "I" "HalfByFive" ∈ wN := wN_t1 56 rfl rfl
theorem w1_57 : Cond.fieldLinkNest "HalfByFive" 229 "HalfByFive$Market" "soldSize" "I" "HalfByFive" ∈ wN := wN_t1 57 rfl rfl
theorem w1_58 : Cond.fieldLink "HalfByFive$Market" 33 "HalfByFive$Market" "pastSize" "I" ∈ wU := wU_t1 58 rfl rfl
theorem w1_59 : Cond.fieldLinkNest "HalfByFive" 142 "HalfByFive$Market" "pastSize" "I" "HalfByFive" ∈ wN := wN_t1 59 rfl rfl
theorem w1_60 : Cond.fieldLink "HalfByFive$Market" 36 "HalfByFive$Market" "prices" "[I" ∈ wU := wU_t1 60 rfl rfl
theorem w1_61 : Cond.fieldLink "HalfByFive$Market" 40 "HalfByFive$Market" "theirPrices" "[I" ∈ wU := wU_t1 61 rfl rfl
theorem w1_62 : Cond.fieldLink "HalfByFive$Market" 43 "HalfByFive$Market" "kinds" "[I" ∈ wU := wU_t1 62 rfl rfl
theorem w1_63 : Cond.fieldLinkNest "HalfByFive$Day" 82 "HalfByFive$Market" "kinds" "[I" "HalfByFive" ∈ wN := wN_t1 63 rfl rfl
theorem w1_64 : Cond.fieldLinkNest "HalfByFive" 157 "HalfByFive$Market" "kinds" "[I" "HalfByFive" ∈ wN := wN_t1 64 rfl rfl
theorem w1_65 : Cond.fieldLink "HalfByFive$Market" 46 "HalfByFive$Market" "hours" "[I" ∈ wU := wU_t1 65 rfl rfl
theorem w1_66 : Cond.fieldLinkNest "HalfByFive$Day" 89 "HalfByFive$Market" "hours" "[I" "HalfByFive" ∈ wN := wN_t1 66 rfl rfl
theorem w1_67 : Cond.fieldLinkNest "HalfByFive" 161 "HalfByFive$Market" "hours" "[I" "HalfByFive" ∈ wN := wN_t1 67 rfl rfl
theorem w1_68 : Cond.fieldLink "HalfByFive$Market" 49 "HalfByFive$Market" "worths" "[I" ∈ wU := wU_t1 68 rfl rfl
theorem w1_69 : Cond.fieldLinkNest "HalfByFive$Day" 96 "HalfByFive$Market" "worths" "[I" "HalfByFive" ∈ wN := wN_t1 69 rfl rfl
theorem w1_70 : Cond.fieldLinkNest "HalfByFive" 164 "HalfByFive$Market" "worths" "[I" "HalfByFive" ∈ wN := wN_t1 70 rfl rfl
theorem w1_71 : Cond.fieldLink "HalfByFive$Market" 52 "HalfByFive$Market" "wants" "[I" ∈ wU := wU_t1 71 rfl rfl
theorem w1_72 : Cond.fieldLinkNest "HalfByFive$Day" 106 "HalfByFive$Market" "wants" "[I" "HalfByFive" ∈ wN := wN_t1 72 rfl rfl
theorem w1_73 : Cond.fieldLinkNest "HalfByFive" 167 "HalfByFive$Market" "wants" "[I" "HalfByFive" ∈ wN := wN_t1 73 rfl rfl
theorem w1_74 : Cond.fieldLink "HalfByFive$Market" 55 "HalfByFive$Market" "soldHours" "[I" ∈ wU := wU_t1 74 rfl rfl
theorem w1_75 : Cond.fieldLinkNest "HalfByFive$Day" 158 "HalfByFive$Market" "soldHours" "[I" "HalfByFive" ∈ wN := wN_t1 75 rfl rfl
theorem w1_76 : Cond.fieldLinkNest "HalfByFive" 257 "HalfByFive$Market" "soldHours" "[I" "HalfByFive" ∈ wN := wN_t1 76 rfl rfl
theorem w1_77 : Cond.fieldLink "HalfByFive$Market" 58 "HalfByFive$Market" "soldNumbers" "[I" ∈ wU := wU_t1 77 rfl rfl
theorem w1_78 : Cond.fieldLinkNest "HalfByFive$Day" 164 "HalfByFive$Market" "soldNumbers" "[I" "HalfByFive" ∈ wN := wN_t1 78 rfl rfl
theorem w1_79 : Cond.fieldLinkNest "HalfByFive" 260 "HalfByFive$Market" "soldNumbers" "[I" "HalfByFive" ∈ wN := wN_t1 79 rfl rfl
theorem w1_80 : Cond.fieldLink "HalfByFive$Market" 61 "HalfByFive$Market" "past" "[I" ∈ wU := wU_t1 80 rfl rfl
theorem w1_81 : Cond.lays "HalfByFive$Market" "HalfByFive$Market" "punnets" "I" ∈ wU := wU_t1 81 rfl rfl
theorem w1_83 : Cond.lays "HalfByFive$Market" "HalfByFive$Market" "heat" "I" ∈ wU := wU_t1 83 rfl rfl
theorem w1_85 : Cond.lays "HalfByFive$Market" "HalfByFive$Market" "rainHours" "I" ∈ wU := wU_t1 85 rfl rfl
theorem w1_87 : Cond.lays "HalfByFive$Market" "HalfByFive$Market" "size" "I" ∈ wU := wU_t1 87 rfl rfl
theorem w1_89 : Cond.lays "HalfByFive$Market" "HalfByFive$Market" "totalTakings" "I" ∈ wU := wU_t1 89 rfl rfl
theorem w1_91 : Cond.lays "HalfByFive$Market" "HalfByFive$Market" "totalThrown" "I" ∈ wU := wU_t1 91 rfl rfl
theorem w1_93 : Cond.lays "HalfByFive$Market" "HalfByFive$Market" "soldSize" "I" ∈ wU := wU_t1 93 rfl rfl
theorem w1_95 : Cond.lays "HalfByFive$Market" "HalfByFive$Market" "pastSize" "I" ∈ wU := wU_t1 95 rfl rfl
theorem w1_97 : Cond.laysFinal "HalfByFive$Market" "HalfByFive$Market" "prices" "[I" ∈ wU := wU_t1 97 rfl rfl
theorem w1_99 : Cond.laysFinal "HalfByFive$Market" "HalfByFive$Market" "theirPrices" "[I" ∈ wU := wU_t1 99 rfl rfl
theorem w1_101 : Cond.laysFinal "HalfByFive$Market" "HalfByFive$Market" "kinds" "[I" ∈ wU := wU_t1 101 rfl rfl
theorem w1_103 : Cond.laysFinal "HalfByFive$Market" "HalfByFive$Market" "hours" "[I" ∈ wU := wU_t1 103 rfl rfl
theorem w1_105 : Cond.laysFinal "HalfByFive$Market" "HalfByFive$Market" "worths" "[I" ∈ wU := wU_t1 105 rfl rfl
theorem w1_107 : Cond.laysFinal "HalfByFive$Market" "HalfByFive$Market" "wants" "[I" ∈ wU := wU_t1 107 rfl rfl
theorem w1_109 : Cond.laysFinal "HalfByFive$Market" "HalfByFive$Market" "soldHours" "[I" ∈ wU := wU_t1 109 rfl rfl
theorem w1_111 : Cond.laysFinal "HalfByFive$Market" "HalfByFive$Market" "soldNumbers" "[I" ∈ wU := wU_t1 111 rfl rfl
theorem w1_113 : Cond.laysFinal "HalfByFive$Market" "HalfByFive$Market" "past" "[I" ∈ wU := wU_t1 113 rfl rfl
theorem w1_115 : Cond.superclass "HalfByFive$Market" "java/lang/Object" ∈ wU := wU_t1 115 rfl rfl
theorem w1_116 : Cond.arrayClass Jvm.ClassFile.FieldType.int ∈ wU := wU_t1 116 rfl rfl
theorem w1_118 : Cond.classLink "HalfByFive" 27 "HalfByFive$Day" ∈ wU := wU_t1 118 rfl rfl
theorem w1_119 : Cond.instantiable "HalfByFive$Day" 12 ∈ wU := wU_t1 119 rfl rfl
theorem w1_120 : Cond.methodLinkNest "HalfByFive" 29 ⟨"HalfByFive$Day", "<init>", "()V"⟩ "HalfByFive" ∈ wN := wN_t1 120 rfl rfl
theorem w1_121 : Cond.instanceMethod ⟨"HalfByFive$Day", "<init>", "()V"⟩ ∈ wU := wU_t1 121 rfl rfl
theorem w1_122 : Cond.code ⟨"HalfByFive$Day", "<init>", "()V"⟩ prog_4_method_1_code 1 (Option.none : Option Jvm.ClassFile.FieldType) ∈ wU := wU_t1 122 rfl rfl
theorem w1_123 : Cond.methodLink "HalfByFive$Day" 3 ⟨"java/lang/Object", "<init>", "()V"⟩ ∈ wU := wU_t1 123 rfl rfl
theorem w1_124 : Cond.classLink "HalfByFive$Day" 9 "HalfByFive$Plain" ∈ wU := wU_t1 124 rfl rfl
theorem w1_126 : Cond.instantiable "HalfByFive$Plain" 0 ∈ wU := wU_t1 126 rfl rfl
theorem w1_127 : Cond.methodLinkNest "HalfByFive$Day" 11 ⟨"HalfByFive$Plain", "<init>", "()V"⟩ "HalfByFive" ∈ wN := wN_t1 127 rfl rfl
theorem w1_128 : Cond.instanceMethod ⟨"HalfByFive$Plain", "<init>", "()V"⟩ ∈ wU := wU_t1 128 rfl rfl
theorem w1_129 : Cond.code ⟨"HalfByFive$Plain", "<init>", "()V"⟩ prog_7_method_1_code 1 (Option.none : Option Jvm.ClassFile.FieldType) ∈ wU := wU_t1 129 rfl rfl
theorem w1_130 : Cond.methodLink "HalfByFive$Plain" 1 ⟨"java/lang/Object", "<init>", "()V"⟩ ∈ wU := wU_t1 130 rfl rfl
theorem w1_131 : Cond.superclass "HalfByFive$Plain" "java/lang/Object" ∈ wU := wU_t1 131 rfl rfl
theorem w1_132 : Cond.arrayClass Jvm.ClassFile.FieldType.boolean ∈ wU := wU_t1 132 rfl rfl
theorem w1_133 : Cond.classLink "HalfByFive$Day" 12 "HalfByFive$Waits" ∈ wU := wU_t1 133 rfl rfl
theorem w1_134 : Cond.instantiable "HalfByFive$Waits" 0 ∈ wU := wU_t1 134 rfl rfl
theorem w1_135 : Cond.methodLinkNest "HalfByFive$Day" 14 ⟨"HalfByFive$Waits", "<init>", "()V"⟩ "HalfByFive" ∈ wN := wN_t1 135 rfl rfl
theorem w1_136 : Cond.instanceMethod ⟨"HalfByFive$Waits", "<init>", "()V"⟩ ∈ wU := wU_t1 136 rfl rfl
theorem w1_137 : Cond.code ⟨"HalfByFive$Waits", "<init>", "()V"⟩ prog_11_method_1_code 1 (Option.none : Option Jvm.ClassFile.FieldType) ∈ wU := wU_t1 137 rfl rfl
theorem w1_138 : Cond.methodLinkNest "HalfByFive$Waits" 3 ⟨"HalfByFive$Plain", "<init>", "()V"⟩ "HalfByFive" ∈ wN := wN_t1 138 rfl rfl
theorem w1_139 : Cond.superclass "HalfByFive$Waits" "HalfByFive$Plain" ∈ wU := wU_t1 139 rfl rfl
theorem w1_140 : Cond.classLink "HalfByFive$Day" 15 "HalfByFive$Cook" ∈ wU := wU_t1 140 rfl rfl
theorem w1_141 : Cond.instantiable "HalfByFive$Cook" 0 ∈ wU := wU_t1 141 rfl rfl
theorem w1_142 : Cond.methodLinkNest "HalfByFive$Day" 17 ⟨"HalfByFive$Cook", "<init>", "()V"⟩ "HalfByFive" ∈ wN := wN_t1 142 rfl rfl
theorem w1_143 : Cond.instanceMethod ⟨"HalfByFive$Cook", "<init>", "()V"⟩ ∈ wU := wU_t1 143 rfl rfl
theorem w1_144 : Cond.code ⟨"HalfByFive$Cook", "<init>", "()V"⟩ prog_3_method_1_code 1 (Option.none : Option Jvm.ClassFile.FieldType) ∈ wU := wU_t1 144 rfl rfl
theorem w1_145 : Cond.methodLinkNest "HalfByFive$Cook" 1 ⟨"HalfByFive$Plain", "<init>", "()V"⟩ "HalfByFive" ∈ wN := wN_t1 145 rfl rfl
theorem w1_146 : Cond.superclass "HalfByFive$Cook" "HalfByFive$Plain" ∈ wU := wU_t1 146 rfl rfl
theorem w1_147 : Cond.classLink "HalfByFive$Day" 18 "HalfByFive$School" ∈ wU := wU_t1 147 rfl rfl
theorem w1_148 : Cond.instantiable "HalfByFive$School" 0 ∈ wU := wU_t1 148 rfl rfl
theorem w1_149 : Cond.methodLinkNest "HalfByFive$Day" 20 ⟨"HalfByFive$School", "<init>", "()V"⟩ "HalfByFive" ∈ wN := wN_t1 149 rfl rfl
theorem w1_150 : Cond.instanceMethod ⟨"HalfByFive$School", "<init>", "()V"⟩ ∈ wU := wU_t1 150 rfl rfl
theorem w1_151 : Cond.code ⟨"HalfByFive$School", "<init>", "()V"⟩ prog_9_method_1_code 1 (Option.none : Option Jvm.ClassFile.FieldType) ∈ wU := wU_t1 151 rfl rfl
theorem w1_152 : Cond.methodLinkNest "HalfByFive$School" 1 ⟨"HalfByFive$Waits", "<init>", "()V"⟩ "HalfByFive" ∈ wN := wN_t1 152 rfl rfl
theorem w1_153 : Cond.superclass "HalfByFive$School" "HalfByFive$Waits" ∈ wU := wU_t1 153 rfl rfl
theorem w1_154 : Cond.classLink "HalfByFive$Day" 21 "HalfByFive$Bag" ∈ wU := wU_t1 154 rfl rfl
theorem w1_155 : Cond.instantiable "HalfByFive$Bag" 0 ∈ wU := wU_t1 155 rfl rfl
theorem w1_156 : Cond.methodLinkNest "HalfByFive$Day" 23 ⟨"HalfByFive$Bag", "<init>", "()V"⟩ "HalfByFive" ∈ wN := wN_t1 156 rfl rfl
theorem w1_157 : Cond.instanceMethod ⟨"HalfByFive$Bag", "<init>", "()V"⟩ ∈ wU := wU_t1 157 rfl rfl
theorem w1_158 : Cond.code ⟨"HalfByFive$Bag", "<init>", "()V"⟩ prog_2_method_1_code 1 (Option.none : Option Jvm.ClassFile.FieldType) ∈ wU := wU_t1 158 rfl rfl
theorem w1_159 : Cond.methodLinkNest "HalfByFive$Bag" 3 ⟨"HalfByFive$Waits", "<init>", "()V"⟩ "HalfByFive" ∈ wN := wN_t1 159 rfl rfl
theorem w1_160 : Cond.superclass "HalfByFive$Bag" "HalfByFive$Waits" ∈ wU := wU_t1 160 rfl rfl
theorem w1_161 : Cond.classLink "HalfByFive$Day" 24 "HalfByFive$Pair" ∈ wU := wU_t1 161 rfl rfl
theorem w1_162 : Cond.instantiable "HalfByFive$Pair" 0 ∈ wU := wU_t1 162 rfl rfl
theorem w1_163 : Cond.methodLinkNest "HalfByFive$Day" 26 ⟨"HalfByFive$Pair", "<init>", "()V"⟩ "HalfByFive" ∈ wN := wN_t1 163 rfl rfl
theorem w1_164 : Cond.instanceMethod ⟨"HalfByFive$Pair", "<init>", "()V"⟩ ∈ wU := wU_t1 164 rfl rfl
theorem w1_165 : Cond.code ⟨"HalfByFive$Pair", "<init>", "()V"⟩ prog_6_method_1_code 1 (Option.none : Option Jvm.ClassFile.FieldType) ∈ wU := wU_t1 165 rfl rfl
theorem w1_166 : Cond.methodLinkNest "HalfByFive$Pair" 1 ⟨"HalfByFive$Plain", "<init>", "()V"⟩ "HalfByFive" ∈ wN := wN_t1 166 rfl rfl
theorem w1_167 : Cond.superclass "HalfByFive$Pair" "HalfByFive$Plain" ∈ wU := wU_t1 167 rfl rfl
theorem w1_168 : Cond.fieldLink "HalfByFive$Day" 27 "HalfByFive$Day" "ways" "[LHalfByFive$Plain;" ∈ wU := wU_t1 168 rfl rfl
theorem w1_169 : Cond.fieldLink "HalfByFive$Day" 33 "HalfByFive$Day" "when" "[I" ∈ wU := wU_t1 169 rfl rfl
theorem w1_170 : Cond.fieldLinkNest "HalfByFive" 176 "HalfByFive$Day" "when" "[I" "HalfByFive" ∈ wN := wN_t1 170 rfl rfl
theorem w1_171 : Cond.fieldLink "HalfByFive$Day" 37 "HalfByFive$Day" "pays" "[I" ∈ wU := wU_t1 171 rfl rfl
theorem w1_172 : Cond.fieldLinkNest "HalfByFive" 179 "HalfByFive$Day" "pays" "[I" "HalfByFive" ∈ wN := wN_t1 172 rfl rfl
theorem w1_173 : Cond.fieldLink "HalfByFive$Day" 40 "HalfByFive$Day" "carries" "[I" ∈ wU := wU_t1 173 rfl rfl
theorem w1_174 : Cond.fieldLinkNest "HalfByFive" 173 "HalfByFive$Day" "carries" "[I" "HalfByFive" ∈ wN := wN_t1 174 rfl rfl
theorem w1_175 : Cond.fieldLink "HalfByFive$Day" 43 "HalfByFive$Day" "staysAway" "[Z" ∈ wU := wU_t1 175 rfl rfl
theorem w1_176 : Cond.fieldLink "HalfByFive$Day" 47 "HalfByFive$Day" "order" "[I" ∈ wU := wU_t1 176 rfl rfl
theorem w1_177 : Cond.fieldLink "HalfByFive$Day" 50 "HalfByFive$Day" "gone" "[I" ∈ wU := wU_t1 177 rfl rfl
theorem w1_178 : Cond.fieldLink "HalfByFive$Day" 53 "HalfByFive$Day" "got" "[I" ∈ wU := wU_t1 178 rfl rfl
theorem w1_179 : Cond.fieldLinkNest "HalfByFive" 182 "HalfByFive$Day" "got" "[I" "HalfByFive" ∈ wN := wN_t1 179 rfl rfl
theorem w1_180 : Cond.fieldLink "HalfByFive$Day" 56 "HalfByFive$Day" "served" "[I" ∈ wU := wU_t1 180 rfl rfl
theorem w1_181 : Cond.fieldLinkNest "HalfByFive" 185 "HalfByFive$Day" "served" "[I" "HalfByFive" ∈ wN := wN_t1 181 rfl rfl
theorem w1_182 : Cond.fieldLink "HalfByFive$Day" 59 "HalfByFive$Day" "left" "I" ∈ wU := wU_t1 182 rfl rfl
theorem w1_183 : Cond.fieldLinkNest "HalfByFive" 136 "HalfByFive$Day" "left" "I" "HalfByFive" ∈ wN := wN_t1 183 rfl rfl
theorem w1_184 : Cond.fieldLink "HalfByFive$Day" 63 "HalfByFive$Day" "takings" "I" ∈ wU := wU_t1 184 rfl rfl
theorem w1_185 : Cond.fieldLinkNest "HalfByFive$TwoStalls" 56 "HalfByFive$Day" "takings" "I" "HalfByFive" ∈ wN := wN_t1 185 rfl rfl
theorem w1_186 : Cond.fieldLinkNest "HalfByFive" 130 "HalfByFive$Day" "takings" "I" "HalfByFive" ∈ wN := wN_t1 186 rfl rfl
theorem w1_187 : Cond.fieldLink "HalfByFive$Day" 66 "HalfByFive$Day" "theirTakings" "I" ∈ wU := wU_t1 187 rfl rfl
theorem w1_188 : Cond.fieldLinkNest "HalfByFive$TwoStalls" 59 "HalfByFive$Day" "theirTakings" "I" "HalfByFive" ∈ wN := wN_t1 188 rfl rfl
theorem w1_189 : Cond.laysFinal "HalfByFive$Day" "HalfByFive$Day" "ways" "[LHalfByFive$Plain;" ∈ wU := wU_t1 189 rfl rfl
theorem w1_191 : Cond.laysFinal "HalfByFive$Day" "HalfByFive$Day" "when" "[I" ∈ wU := wU_t1 191 rfl rfl
theorem w1_193 : Cond.laysFinal "HalfByFive$Day" "HalfByFive$Day" "pays" "[I" ∈ wU := wU_t1 193 rfl rfl
theorem w1_195 : Cond.laysFinal "HalfByFive$Day" "HalfByFive$Day" "carries" "[I" ∈ wU := wU_t1 195 rfl rfl
theorem w1_197 : Cond.laysFinal "HalfByFive$Day" "HalfByFive$Day" "staysAway" "[Z" ∈ wU := wU_t1 197 rfl rfl
theorem w1_199 : Cond.laysFinal "HalfByFive$Day" "HalfByFive$Day" "order" "[I" ∈ wU := wU_t1 199 rfl rfl
theorem w1_201 : Cond.laysFinal "HalfByFive$Day" "HalfByFive$Day" "gone" "[I" ∈ wU := wU_t1 201 rfl rfl
theorem w1_203 : Cond.laysFinal "HalfByFive$Day" "HalfByFive$Day" "got" "[I" ∈ wU := wU_t1 203 rfl rfl
theorem w1_205 : Cond.laysFinal "HalfByFive$Day" "HalfByFive$Day" "served" "[I" ∈ wU := wU_t1 205 rfl rfl
theorem w1_207 : Cond.lays "HalfByFive$Day" "HalfByFive$Day" "left" "I" ∈ wU := wU_t1 207 rfl rfl
theorem w1_209 : Cond.lays "HalfByFive$Day" "HalfByFive$Day" "takings" "I" ∈ wU := wU_t1 209 rfl rfl
theorem w1_211 : Cond.lays "HalfByFive$Day" "HalfByFive$Day" "theirTakings" "I" ∈ wU := wU_t1 211 rfl rfl
theorem w1_213 : Cond.superclass "HalfByFive$Day" "java/lang/Object" ∈ wU := wU_t1 213 rfl rfl
theorem w1_214 : Cond.classLink "HalfByFive" 34 "HalfByFive$TwoStalls" ∈ wU := wU_t1 214 rfl rfl
theorem w1_215 : Cond.instantiable "HalfByFive$TwoStalls" 6 ∈ wU := wU_t1 215 rfl rfl
theorem w1_216 : Cond.methodLinkNest "HalfByFive" 36 ⟨"HalfByFive$TwoStalls", "<init>", "()V"⟩ "HalfByFive" ∈ wN := wN_t1 216 rfl rfl
theorem w1_217 : Cond.instanceMethod ⟨"HalfByFive$TwoStalls", "<init>", "()V"⟩ ∈ wU := wU_t1 217 rfl rfl
theorem w1_218 : Cond.code ⟨"HalfByFive$TwoStalls", "<init>", "()V"⟩ prog_10_method_1_code 1 (Option.none : Option Jvm.ClassFile.FieldType) ∈ wU := wU_t1 218 rfl rfl
theorem w1_219 : Cond.methodLink "HalfByFive$TwoStalls" 3 ⟨"java/lang/Object", "<init>", "()V"⟩ ∈ wU := wU_t1 219 rfl rfl
theorem w1_220 : Cond.fieldLink "HalfByFive$TwoStalls" 11 "HalfByFive$TwoStalls" "mine" "[I" ∈ wU := wU_t1 220 rfl rfl
theorem w1_221 : Cond.fieldLink "HalfByFive$TwoStalls" 15 "HalfByFive$TwoStalls" "others" "[I" ∈ wU := wU_t1 221 rfl rfl
theorem w1_222 : Cond.fieldLink "HalfByFive$TwoStalls" 18 "HalfByFive$TwoStalls" "mostMine" "[I" ∈ wU := wU_t1 222 rfl rfl
theorem w1_223 : Cond.fieldLink "HalfByFive$TwoStalls" 21 "HalfByFive$TwoStalls" "mostOthers" "[I" ∈ wU := wU_t1 223 rfl rfl
theorem w1_224 : Cond.fieldLink "HalfByFive$TwoStalls" 24 "HalfByFive$TwoStalls" "rests" "I" ∈ wU := wU_t1 224 rfl rfl
theorem w1_225 : Cond.fieldLinkNest "HalfByFive" 207 "HalfByFive$TwoStalls" "rests" "I" "HalfByFive" ∈ wN := wN_t1 225 rfl rfl
theorem w1_226 : Cond.fieldLink "HalfByFive$TwoStalls" 28 "HalfByFive$TwoStalls" "firstRest" "I" ∈ wU := wU_t1 226 rfl rfl
theorem w1_227 : Cond.fieldLinkNest "HalfByFive" 210 "HalfByFive$TwoStalls" "firstRest" "I" "HalfByFive" ∈ wN := wN_t1 227 rfl rfl
theorem w1_228 : Cond.laysFinal "HalfByFive$TwoStalls" "HalfByFive$TwoStalls" "mine" "[I" ∈ wU := wU_t1 228 rfl rfl
theorem w1_230 : Cond.laysFinal "HalfByFive$TwoStalls" "HalfByFive$TwoStalls" "others" "[I" ∈ wU := wU_t1 230 rfl rfl
theorem w1_232 : Cond.laysFinal "HalfByFive$TwoStalls" "HalfByFive$TwoStalls" "mostMine" "[I" ∈ wU := wU_t1 232 rfl rfl
theorem w1_234 : Cond.laysFinal "HalfByFive$TwoStalls" "HalfByFive$TwoStalls" "mostOthers" "[I" ∈ wU := wU_t1 234 rfl rfl
theorem w1_236 : Cond.lays "HalfByFive$TwoStalls" "HalfByFive$TwoStalls" "rests" "I" ∈ wU := wU_t1 236 rfl rfl
theorem w1_238 : Cond.lays "HalfByFive$TwoStalls" "HalfByFive$TwoStalls" "firstRest" "I" ∈ wU := wU_t1 238 rfl rfl
theorem w2_0 : Cond.superclass "HalfByFive$TwoStalls" "java/lang/Object" ∈ wU := wU_t2 0 rfl rfl
theorem w2_1 : Cond.classLink "HalfByFive" 41 "HalfByFive$Reader" ∈ wU := wU_t2 1 rfl rfl
theorem w2_2 : Cond.instantiable "HalfByFive$Reader" 6 ∈ wU := wU_t2 2 rfl rfl
theorem w2_3 : Cond.methodLinkNest "HalfByFive" 43 ⟨"HalfByFive$Reader", "<init>", "()V"⟩ "HalfByFive" ∈ wN := wN_t2 3 rfl rfl
theorem w2_4 : Cond.instanceMethod ⟨"HalfByFive$Reader", "<init>", "()V"⟩ ∈ wU := wU_t2 4 rfl rfl
theorem w2_5 : Cond.code ⟨"HalfByFive$Reader", "<init>", "()V"⟩ prog_8_method_1_code 1 (Option.none : Option Jvm.ClassFile.FieldType) ∈ wU := wU_t2 5 rfl rfl
theorem w2_6 : Cond.methodLink "HalfByFive$Reader" 3 ⟨"java/lang/Object", "<init>", "()V"⟩ ∈ wU := wU_t2 6 rfl rfl
theorem w2_7 : Cond.fieldLink "HalfByFive$Reader" 9 "HalfByFive$Reader" "bytes" "[I" ∈ wU := wU_t2 7 rfl rfl
theorem w2_8 : Cond.fieldLink "HalfByFive$Reader" 15 "HalfByFive$Reader" "length" "I" ∈ wU := wU_t2 8 rfl rfl
theorem w2_9 : Cond.fieldLinkNest "HalfByFive" 106 "HalfByFive$Reader" "length" "I" "HalfByFive" ∈ wN := wN_t2 9 rfl rfl
theorem w2_10 : Cond.fieldLink "HalfByFive$Reader" 19 "HalfByFive$Reader" "token" "I" ∈ wU := wU_t2 10 rfl rfl
theorem w2_11 : Cond.fieldLink "HalfByFive$Reader" 22 "HalfByFive$Reader" "start" "I" ∈ wU := wU_t2 11 rfl rfl
theorem w2_12 : Cond.fieldLink "HalfByFive$Reader" 25 "HalfByFive$Reader" "next" "I" ∈ wU := wU_t2 12 rfl rfl
theorem w2_13 : Cond.fieldLink "HalfByFive$Reader" 28 "HalfByFive$Reader" "number" "I" ∈ wU := wU_t2 13 rfl rfl
theorem w2_14 : Cond.laysFinal "HalfByFive$Reader" "HalfByFive$Reader" "bytes" "[I" ∈ wU := wU_t2 14 rfl rfl
theorem w2_16 : Cond.lays "HalfByFive$Reader" "HalfByFive$Reader" "length" "I" ∈ wU := wU_t2 16 rfl rfl
theorem w2_18 : Cond.lays "HalfByFive$Reader" "HalfByFive$Reader" "token" "I" ∈ wU := wU_t2 18 rfl rfl
theorem w2_20 : Cond.lays "HalfByFive$Reader" "HalfByFive$Reader" "start" "I" ∈ wU := wU_t2 20 rfl rfl
theorem w2_22 : Cond.lays "HalfByFive$Reader" "HalfByFive$Reader" "next" "I" ∈ wU := wU_t2 22 rfl rfl
theorem w2_24 : Cond.lays "HalfByFive$Reader" "HalfByFive$Reader" "number" "I" ∈ wU := wU_t2 24 rfl rfl
theorem w2_26 : Cond.superclass "HalfByFive$Reader" "java/lang/Object" ∈ wU := wU_t2 26 rfl rfl
theorem w2_27 : Cond.fieldLink "HalfByFive" 10 "HalfByFive" "now" "LHalfByFive$Market;" ∈ wU := wU_t2 27 rfl rfl
theorem w2_28 : Cond.fieldLink "HalfByFive" 16 "HalfByFive" "trial" "LHalfByFive$Market;" ∈ wU := wU_t2 28 rfl rfl
theorem w2_29 : Cond.fieldLink "HalfByFive" 19 "HalfByFive" "images" "[LHalfByFive$Market;" ∈ wU := wU_t2 29 rfl rfl
theorem w2_30 : Cond.fieldLink "HalfByFive" 23 "HalfByFive" "kept" "[Z" ∈ wU := wU_t2 30 rfl rfl
theorem w2_31 : Cond.fieldLink "HalfByFive" 30 "HalfByFive" "walked" "LHalfByFive$Day;" ∈ wU := wU_t2 31 rfl rfl
theorem w2_32 : Cond.fieldLink "HalfByFive" 37 "HalfByFive" "pairs" "LHalfByFive$TwoStalls;" ∈ wU := wU_t2 32 rfl rfl
theorem w2_33 : Cond.fieldLink "HalfByFive" 44 "HalfByFive" "told" "LHalfByFive$Reader;" ∈ wU := wU_t2 33 rfl rfl
theorem w2_34 : Cond.fieldLink "HalfByFive" 48 "HalfByFive" "above" "J" ∈ wU := wU_t2 34 rfl rfl
theorem w2_35 : Cond.fieldLink "HalfByFive" 52 "HalfByFive" "below" "J" ∈ wU := wU_t2 35 rfl rfl
theorem w2_36 : Cond.fieldLink "HalfByFive" 55 "HalfByFive" "refusedBad" "I" ∈ wU := wU_t2 36 rfl rfl
theorem w2_37 : Cond.fieldLink "HalfByFive" 59 "HalfByFive" "refusedNo" "I" ∈ wU := wU_t2 37 rfl rfl
theorem w2_38 : Cond.fieldLink "HalfByFive" 62 "HalfByFive" "refusedFull" "I" ∈ wU := wU_t2 38 rfl rfl
theorem w2_39 : Cond.laysFinal "HalfByFive" "HalfByFive" "now" "LHalfByFive$Market;" ∈ wU := wU_t2 39 rfl rfl
theorem w2_41 : Cond.laysFinal "HalfByFive" "HalfByFive" "trial" "LHalfByFive$Market;" ∈ wU := wU_t2 41 rfl rfl
theorem w2_43 : Cond.laysFinal "HalfByFive" "HalfByFive" "images" "[LHalfByFive$Market;" ∈ wU := wU_t2 43 rfl rfl
theorem w2_45 : Cond.laysFinal "HalfByFive" "HalfByFive" "kept" "[Z" ∈ wU := wU_t2 45 rfl rfl
theorem w2_47 : Cond.laysFinal "HalfByFive" "HalfByFive" "walked" "LHalfByFive$Day;" ∈ wU := wU_t2 47 rfl rfl
theorem w2_49 : Cond.laysFinal "HalfByFive" "HalfByFive" "pairs" "LHalfByFive$TwoStalls;" ∈ wU := wU_t2 49 rfl rfl
theorem w2_51 : Cond.laysFinal "HalfByFive" "HalfByFive" "told" "LHalfByFive$Reader;" ∈ wU := wU_t2 51 rfl rfl
theorem w2_53 : Cond.lays "HalfByFive" "HalfByFive" "above" "J" ∈ wU := wU_t2 53 rfl rfl
theorem w2_55 : Cond.lays "HalfByFive" "HalfByFive" "below" "J" ∈ wU := wU_t2 55 rfl rfl
theorem w2_57 : Cond.lays "HalfByFive" "HalfByFive" "refusedBad" "I" ∈ wU := wU_t2 57 rfl rfl
theorem w2_59 : Cond.lays "HalfByFive" "HalfByFive" "refusedNo" "I" ∈ wU := wU_t2 59 rfl rfl
theorem w2_61 : Cond.lays "HalfByFive" "HalfByFive" "refusedFull" "I" ∈ wU := wU_t2 61 rfl rfl
theorem w2_63 : Cond.superclass "HalfByFive" "java/lang/Object" ∈ wU := wU_t2 63 rfl rfl
theorem w2_64 : Cond.methodLink "HalfByFiveLaw" 13 ⟨"HalfByFive", "market", "(II)I"⟩ ∈ wU := wU_t2 64 rfl rfl
theorem w2_65 : Cond.instanceMethod ⟨"HalfByFive", "market", "(II)I"⟩ ∈ wU := wU_t2 65 rfl rfl
theorem w2_66 : Cond.selects "HalfByFive" ⟨"HalfByFive", "market", "(II)I"⟩ ⟨"HalfByFive", "market", "(II)I"⟩ ∈ wU := wU_t2 66 rfl rfl
theorem w2_67 : Cond.code ⟨"HalfByFive", "market", "(II)I"⟩ prog_1_method_2_code 4 (Option.some Jvm.ClassFile.FieldType.int) ∈ wU := wU_t2 67 rfl rfl
theorem w2_68 : Cond.methodLink "HalfByFive" 65 ⟨"HalfByFive", "within", "(III)Z"⟩ ∈ wU := wU_t2 68 rfl rfl
theorem w2_69 : Cond.static ⟨"HalfByFive", "within", "(III)Z"⟩ ∈ wU := wU_t2 69 rfl rfl
theorem w2_70 : Cond.code ⟨"HalfByFive", "within", "(III)Z"⟩ prog_1_method_37_code 3 (Option.some Jvm.ClassFile.FieldType.boolean) ∈ wU := wU_t2 70 rfl rfl
theorem w2_71 : Cond.methodLink "HalfByFive" 69 ⟨"HalfByFive", "refuse", "(I)I"⟩ ∈ wU := wU_t2 71 rfl rfl
theorem w2_73 : Cond.instanceMethod ⟨"HalfByFive", "refuse", "(I)I"⟩ ∈ wU := wU_t2 73 rfl rfl
theorem w2_74 : Cond.code ⟨"HalfByFive", "refuse", "(I)I"⟩ prog_1_method_34_code 2 (Option.some Jvm.ClassFile.FieldType.int) ∈ wU := wU_t2 74 rfl rfl
theorem w2_75 : Cond.methodLinkNest "HalfByFive" 76 ⟨"HalfByFive$Market", "startAnew", "(II)V"⟩ "HalfByFive" ∈ wN := wN_t2 75 rfl rfl
theorem w2_77 : Cond.instanceMethod ⟨"HalfByFive$Market", "startAnew", "(II)V"⟩ ∈ wU := wU_t2 77 rfl rfl
theorem w2_78 : Cond.code ⟨"HalfByFive$Market", "startAnew", "(II)V"⟩ prog_5_method_2_code 3 (Option.none : Option Jvm.ClassFile.FieldType) ∈ wU := wU_t2 78 rfl rfl
theorem w2_79 : Cond.methodLink "HalfByFiveLaw" 18 ⟨"HalfByFive", "bring", "(I)I"⟩ ∈ wU := wU_t2 79 rfl rfl
theorem w2_80 : Cond.instanceMethod ⟨"HalfByFive", "bring", "(I)I"⟩ ∈ wU := wU_t2 80 rfl rfl
theorem w2_81 : Cond.selects "HalfByFive" ⟨"HalfByFive", "bring", "(I)I"⟩ ⟨"HalfByFive", "bring", "(I)I"⟩ ∈ wU := wU_t2 81 rfl rfl
theorem w2_82 : Cond.code ⟨"HalfByFive", "bring", "(I)I"⟩ prog_1_method_3_code 3 (Option.some Jvm.ClassFile.FieldType.int) ∈ wU := wU_t2 82 rfl rfl
theorem w2_83 : Cond.methodLink "HalfByFiveLaw" 23 ⟨"HalfByFive", "price", "(II)I"⟩ ∈ wU := wU_t2 83 rfl rfl
theorem w2_84 : Cond.instanceMethod ⟨"HalfByFive", "price", "(II)I"⟩ ∈ wU := wU_t2 84 rfl rfl
theorem w2_85 : Cond.selects "HalfByFive" ⟨"HalfByFive", "price", "(II)I"⟩ ⟨"HalfByFive", "price", "(II)I"⟩ ∈ wU := wU_t2 85 rfl rfl
theorem w2_86 : Cond.code ⟨"HalfByFive", "price", "(II)I"⟩ prog_1_method_4_code 4 (Option.some Jvm.ClassFile.FieldType.int) ∈ wU := wU_t2 86 rfl rfl
theorem w2_87 : Cond.methodLink "HalfByFive" 83 ⟨"HalfByFive", "isHour", "(I)Z"⟩ ∈ wU := wU_t2 87 rfl rfl
theorem w2_88 : Cond.static ⟨"HalfByFive", "isHour", "(I)Z"⟩ ∈ wU := wU_t2 88 rfl rfl
theorem w2_89 : Cond.code ⟨"HalfByFive", "isHour", "(I)Z"⟩ prog_1_method_38_code 1 (Option.some Jvm.ClassFile.FieldType.boolean) ∈ wU := wU_t2 89 rfl rfl
theorem w2_90 : Cond.methodLinkNest "HalfByFive" 87 ⟨"HalfByFive$Market", "priceIn", "(I)I"⟩ "HalfByFive" ∈ wN := wN_t2 90 rfl rfl
theorem w2_92 : Cond.instanceMethod ⟨"HalfByFive$Market", "priceIn", "(I)I"⟩ ∈ wU := wU_t2 92 rfl rfl
theorem w2_93 : Cond.code ⟨"HalfByFive$Market", "priceIn", "(I)I"⟩ prog_5_method_4_code 2 (Option.some Jvm.ClassFile.FieldType.int) ∈ wU := wU_t2 93 rfl rfl
theorem w2_94 : Cond.methodLinkNest "HalfByFive" 90 ⟨"HalfByFive$Market", "setPricesFrom", "(II)V"⟩ "HalfByFive" ∈ wN := wN_t2 94 rfl rfl
theorem w2_96 : Cond.instanceMethod ⟨"HalfByFive$Market", "setPricesFrom", "(II)V"⟩ ∈ wU := wU_t2 96 rfl rfl
theorem w2_97 : Cond.code ⟨"HalfByFive$Market", "setPricesFrom", "(II)V"⟩ prog_5_method_7_code 4 (Option.none : Option Jvm.ClassFile.FieldType) ∈ wU := wU_t2 97 rfl rfl
theorem w2_98 : Cond.methodLink "HalfByFive$Market" 76 ⟨"java/lang/Math", "max", "(II)I"⟩ ∈ wU := wU_t2 98 rfl rfl
theorem w2_99 : Cond.static ⟨"java/lang/Math", "max", "(II)I"⟩ ∈ wU := wU_t2 99 rfl rfl
theorem w2_100 : Cond.code ⟨"java/lang/Math", "max", "(II)I"⟩ prog_15_method_65_code 2 (Option.some Jvm.ClassFile.FieldType.int) ∈ wU := wU_t2 100 rfl rfl
theorem w2_101 : Cond.methodLink "HalfByFiveLaw" 27 ⟨"HalfByFive", "theirs", "(II)I"⟩ ∈ wU := wU_t2 101 rfl rfl
theorem w2_102 : Cond.instanceMethod ⟨"HalfByFive", "theirs", "(II)I"⟩ ∈ wU := wU_t2 102 rfl rfl
theorem w2_103 : Cond.selects "HalfByFive" ⟨"HalfByFive", "theirs", "(II)I"⟩ ⟨"HalfByFive", "theirs", "(II)I"⟩ ∈ wU := wU_t2 103 rfl rfl
theorem w2_104 : Cond.code ⟨"HalfByFive", "theirs", "(II)I"⟩ prog_1_method_5_code 4 (Option.some Jvm.ClassFile.FieldType.int) ∈ wU := wU_t2 104 rfl rfl
theorem w2_105 : Cond.methodLinkNest "HalfByFive" 93 ⟨"HalfByFive$Market", "theirPriceIn", "(I)I"⟩ "HalfByFive" ∈ wN := wN_t2 105 rfl rfl
theorem w2_107 : Cond.instanceMethod ⟨"HalfByFive$Market", "theirPriceIn", "(I)I"⟩ ∈ wU := wU_t2 107 rfl rfl
theorem w2_108 : Cond.code ⟨"HalfByFive$Market", "theirPriceIn", "(I)I"⟩ prog_5_method_5_code 2 (Option.some Jvm.ClassFile.FieldType.int) ∈ wU := wU_t2 108 rfl rfl
theorem w2_109 : Cond.methodLinkNest "HalfByFive" 96 ⟨"HalfByFive$Market", "setTheirPrice", "(II)V"⟩ "HalfByFive" ∈ wN := wN_t2 109 rfl rfl
theorem w2_111 : Cond.instanceMethod ⟨"HalfByFive$Market", "setTheirPrice", "(II)V"⟩ ∈ wU := wU_t2 111 rfl rfl
theorem w2_112 : Cond.code ⟨"HalfByFive$Market", "setTheirPrice", "(II)V"⟩ prog_5_method_8_code 3 (Option.none : Option Jvm.ClassFile.FieldType) ∈ wU := wU_t2 112 rfl rfl
theorem w2_113 : Cond.methodLink "HalfByFiveLaw" 31 ⟨"HalfByFive", "rain", "(I)I"⟩ ∈ wU := wU_t2 113 rfl rfl
theorem w2_114 : Cond.instanceMethod ⟨"HalfByFive", "rain", "(I)I"⟩ ∈ wU := wU_t2 114 rfl rfl
theorem w2_115 : Cond.selects "HalfByFive" ⟨"HalfByFive", "rain", "(I)I"⟩ ⟨"HalfByFive", "rain", "(I)I"⟩ ∈ wU := wU_t2 115 rfl rfl
theorem w2_116 : Cond.code ⟨"HalfByFive", "rain", "(I)I"⟩ prog_1_method_6_code 3 (Option.some Jvm.ClassFile.FieldType.int) ∈ wU := wU_t2 116 rfl rfl
theorem w2_117 : Cond.methodLink "HalfByFiveLaw" 35 ⟨"HalfByFive", "buyer", "(IIII)I"⟩ ∈ wU := wU_t2 117 rfl rfl
theorem w2_118 : Cond.instanceMethod ⟨"HalfByFive", "buyer", "(IIII)I"⟩ ∈ wU := wU_t2 118 rfl rfl
theorem w2_119 : Cond.selects "HalfByFive" ⟨"HalfByFive", "buyer", "(IIII)I"⟩ ⟨"HalfByFive", "buyer", "(IIII)I"⟩ ∈ wU := wU_t2 119 rfl rfl
theorem w2_120 : Cond.code ⟨"HalfByFive", "buyer", "(IIII)I"⟩ prog_1_method_7_code 5 (Option.some Jvm.ClassFile.FieldType.int) ∈ wU := wU_t2 120 rfl rfl
theorem w2_121 : Cond.methodLinkNest "HalfByFive" 102 ⟨"HalfByFive$Market", "addBuyer", "(IIII)V"⟩ "HalfByFive" ∈ wN := wN_t2 121 rfl rfl
theorem w2_123 : Cond.instanceMethod ⟨"HalfByFive$Market", "addBuyer", "(IIII)V"⟩ ∈ wU := wU_t2 123 rfl rfl
theorem w2_124 : Cond.code ⟨"HalfByFive$Market", "addBuyer", "(IIII)V"⟩ prog_5_method_10_code 5 (Option.none : Option Jvm.ClassFile.FieldType) ∈ wU := wU_t2 124 rfl rfl
theorem w2_125 : Cond.methodLink "HalfByFiveLaw" 40 ⟨"HalfByFive", "type", "(I)I"⟩ ∈ wU := wU_t2 125 rfl rfl
theorem w2_126 : Cond.instanceMethod ⟨"HalfByFive", "type", "(I)I"⟩ ∈ wU := wU_t2 126 rfl rfl
theorem w2_127 : Cond.selects "HalfByFive" ⟨"HalfByFive", "type", "(I)I"⟩ ⟨"HalfByFive", "type", "(I)I"⟩ ∈ wU := wU_t2 127 rfl rfl
theorem w2_128 : Cond.code ⟨"HalfByFive", "type", "(I)I"⟩ prog_1_method_8_code 2 (Option.some Jvm.ClassFile.FieldType.int) ∈ wU := wU_t2 128 rfl rfl
theorem w2_129 : Cond.methodLinkNest "HalfByFive" 109 ⟨"HalfByFive$Reader", "addByte", "(I)V"⟩ "HalfByFive" ∈ wN := wN_t2 129 rfl rfl
theorem w2_131 : Cond.instanceMethod ⟨"HalfByFive$Reader", "addByte", "(I)V"⟩ ∈ wU := wU_t2 131 rfl rfl
theorem w2_132 : Cond.code ⟨"HalfByFive$Reader", "addByte", "(I)V"⟩ prog_8_method_2_code 2 (Option.none : Option Jvm.ClassFile.FieldType) ∈ wU := wU_t2 132 rfl rfl
theorem w2_133 : Cond.methodLink "HalfByFiveLaw" 44 ⟨"HalfByFive", "clear", "()I"⟩ ∈ wU := wU_t2 133 rfl rfl
theorem w2_134 : Cond.instanceMethod ⟨"HalfByFive", "clear", "()I"⟩ ∈ wU := wU_t2 134 rfl rfl
theorem w2_135 : Cond.selects "HalfByFive" ⟨"HalfByFive", "clear", "()I"⟩ ⟨"HalfByFive", "clear", "()I"⟩ ∈ wU := wU_t2 135 rfl rfl
theorem w2_136 : Cond.code ⟨"HalfByFive", "clear", "()I"⟩ prog_1_method_9_code 2 (Option.some Jvm.ClassFile.FieldType.int) ∈ wU := wU_t2 136 rfl rfl
theorem w2_137 : Cond.methodLink "HalfByFiveLaw" 49 ⟨"HalfByFive", "read", "()I"⟩ ∈ wU := wU_t2 137 rfl rfl
theorem w2_138 : Cond.instanceMethod ⟨"HalfByFive", "read", "()I"⟩ ∈ wU := wU_t2 138 rfl rfl
theorem w2_139 : Cond.selects "HalfByFive" ⟨"HalfByFive", "read", "()I"⟩ ⟨"HalfByFive", "read", "()I"⟩ ∈ wU := wU_t2 139 rfl rfl
theorem w2_140 : Cond.code ⟨"HalfByFive", "read", "()I"⟩ prog_1_method_10_code 2 (Option.some Jvm.ClassFile.FieldType.int) ∈ wU := wU_t2 140 rfl rfl
theorem w2_141 : Cond.methodLinkNest "HalfByFive" 113 ⟨"HalfByFive$Reader", "readInto", "(LHalfByFive$Market;)I"⟩ "HalfByFive" ∈ wN := wN_t2 141 rfl rfl
theorem w2_143 : Cond.instanceMethod ⟨"HalfByFive$Reader", "readInto", "(LHalfByFive$Market;)I"⟩ ∈ wU := wU_t2 143 rfl rfl
theorem w2_144 : Cond.code ⟨"HalfByFive$Reader", "readInto", "(LHalfByFive$Market;)I"⟩ prog_8_method_3_code 4 (Option.some Jvm.ClassFile.FieldType.int) ∈ wU := wU_t2 144 rfl rfl
theorem w2_145 : Cond.methodLink "HalfByFive$Reader" 31 ⟨"HalfByFive$Reader", "step", "()V"⟩ ∈ wU := wU_t2 145 rfl rfl
theorem w2_147 : Cond.instanceMethod ⟨"HalfByFive$Reader", "step", "()V"⟩ ∈ wU := wU_t2 147 rfl rfl
theorem w2_148 : Cond.code ⟨"HalfByFive$Reader", "step", "()V"⟩ prog_8_method_12_code 2 (Option.none : Option Jvm.ClassFile.FieldType) ∈ wU := wU_t2 148 rfl rfl
theorem w2_149 : Cond.methodLink "HalfByFive$Reader" 101 ⟨"HalfByFive$Reader", "byteAt", "(I)I"⟩ ∈ wU := wU_t2 149 rfl rfl
theorem w2_151 : Cond.instanceMethod ⟨"HalfByFive$Reader", "byteAt", "(I)I"⟩ ∈ wU := wU_t2 151 rfl rfl
theorem w2_152 : Cond.code ⟨"HalfByFive$Reader", "byteAt", "(I)I"⟩ prog_8_method_14_code 2 (Option.some Jvm.ClassFile.FieldType.int) ∈ wU := wU_t2 152 rfl rfl
theorem w2_153 : Cond.methodLink "HalfByFive$Reader" 105 ⟨"HalfByFive$Reader", "isLetter", "(I)Z"⟩ ∈ wU := wU_t2 153 rfl rfl
theorem w2_154 : Cond.static ⟨"HalfByFive$Reader", "isLetter", "(I)Z"⟩ ∈ wU := wU_t2 154 rfl rfl
theorem w2_155 : Cond.code ⟨"HalfByFive$Reader", "isLetter", "(I)Z"⟩ prog_8_method_15_code 1 (Option.some Jvm.ClassFile.FieldType.boolean) ∈ wU := wU_t2 155 rfl rfl
theorem w2_156 : Cond.methodLink "HalfByFive$Reader" 109 ⟨"HalfByFive$Reader", "isFigure", "(I)Z"⟩ ∈ wU := wU_t2 156 rfl rfl
theorem w2_157 : Cond.static ⟨"HalfByFive$Reader", "isFigure", "(I)Z"⟩ ∈ wU := wU_t2 157 rfl rfl
theorem w2_158 : Cond.code ⟨"HalfByFive$Reader", "isFigure", "(I)Z"⟩ prog_8_method_16_code 1 (Option.some Jvm.ClassFile.FieldType.boolean) ∈ wU := wU_t2 158 rfl rfl
theorem w2_159 : Cond.methodLink "HalfByFive$Reader" 34 ⟨"HalfByFive$Reader", "readsMarket", "(LHalfByFive$Market;)Z"⟩ ∈ wU := wU_t2 159 rfl rfl
theorem w2_161 : Cond.instanceMethod ⟨"HalfByFive$Reader", "readsMarket", "(LHalfByFive$Market;)Z"⟩ ∈ wU := wU_t2 161 rfl rfl
theorem w2_162 : Cond.code ⟨"HalfByFive$Reader", "readsMarket", "(LHalfByFive$Market;)Z"⟩ prog_8_method_4_code 4 (Option.some Jvm.ClassFile.FieldType.boolean) ∈ wU := wU_t2 162 rfl rfl
theorem w2_164 : Cond.methodLink "HalfByFive$Reader" 43 ⟨"HalfByFive$Reader", "isWord", "(Ljava/lang/String;)Z"⟩ ∈ wU := wU_t2 164 rfl rfl
theorem w2_166 : Cond.instanceMethod ⟨"HalfByFive$Reader", "isWord", "(Ljava/lang/String;)Z"⟩ ∈ wU := wU_t2 166 rfl rfl
theorem w2_167 : Cond.code ⟨"HalfByFive$Reader", "isWord", "(Ljava/lang/String;)Z"⟩ prog_8_method_13_code 3 (Option.some Jvm.ClassFile.FieldType.boolean) ∈ wU := wU_t2 167 rfl rfl
theorem w2_168 : Cond.methodLink "HalfByFive$Reader" 112 ⟨"java/lang/String", "length", "()I"⟩ ∈ wU := wU_t2 168 rfl rfl
theorem w2_169 : Cond.instanceMethod ⟨"java/lang/String", "length", "()I"⟩ ∈ wU := wU_t2 169 rfl rfl
theorem w2_170 : Cond.selects "java/lang/String" ⟨"java/lang/String", "length", "()I"⟩ ⟨"java/lang/String", "length", "()I"⟩ ∈ wU := wU_t2 170 rfl rfl
theorem w2_171 : Cond.code ⟨"java/lang/String", "length", "()I"⟩ prog_16_method_54_code 1 (Option.some Jvm.ClassFile.FieldType.int) ∈ wU := wU_t2 171 rfl rfl
theorem w2_172 : Cond.methodLink "java/lang/String" 335 ⟨"java/lang/String", "coder", "()B"⟩ ∈ wU := wU_t2 172 rfl rfl
theorem w2_173 : Cond.instanceMethod ⟨"java/lang/String", "coder", "()B"⟩ ∈ wU := wU_t2 173 rfl rfl
theorem w2_174 : Cond.selects "java/lang/String" ⟨"java/lang/String", "coder", "()B"⟩ ⟨"java/lang/String", "coder", "()B"⟩ ∈ wU := wU_t2 174 rfl rfl
theorem w2_175 : Cond.code ⟨"java/lang/String", "coder", "()B"⟩ prog_16_method_152_code 1 (Option.some Jvm.ClassFile.FieldType.byte) ∈ wU := wU_t2 175 rfl rfl
theorem w2_176 : Cond.fieldLink "java/lang/String" 38 "java/lang/String" "COMPACT_STRINGS" "Z" ∈ wU := wU_t2 176 rfl rfl
theorem w2_178 : Cond.methodLink "HalfByFive$Reader" 117 ⟨"java/lang/String", "charAt", "(I)C"⟩ ∈ wU := wU_t2 178 rfl rfl
theorem w2_179 : Cond.instanceMethod ⟨"java/lang/String", "charAt", "(I)C"⟩ ∈ wU := wU_t2 179 rfl rfl
theorem w2_180 : Cond.selects "java/lang/String" ⟨"java/lang/String", "charAt", "(I)C"⟩ ⟨"java/lang/String", "charAt", "(I)C"⟩ ∈ wU := wU_t2 180 rfl rfl
theorem w2_181 : Cond.code ⟨"java/lang/String", "charAt", "(I)C"⟩ prog_16_method_56_code 2 (Option.some Jvm.ClassFile.FieldType.char) ∈ wU := wU_t2 181 rfl rfl
theorem w2_182 : Cond.methodLink "java/lang/String" 492 ⟨"java/lang/String", "isLatin1", "()Z"⟩ ∈ wU := wU_t2 182 rfl rfl
theorem w2_183 : Cond.instanceMethod ⟨"java/lang/String", "isLatin1", "()Z"⟩ ∈ wU := wU_t2 183 rfl rfl
theorem w2_184 : Cond.selects "java/lang/String" ⟨"java/lang/String", "isLatin1", "()Z"⟩ ⟨"java/lang/String", "isLatin1", "()Z"⟩ ∈ wU := wU_t2 184 rfl rfl
theorem w2_185 : Cond.code ⟨"java/lang/String", "isLatin1", "()Z"⟩ prog_16_method_154_code 1 (Option.some Jvm.ClassFile.FieldType.boolean) ∈ wU := wU_t2 185 rfl rfl
theorem w2_186 : Cond.methodLink "java/lang/String" 495 ⟨"java/lang/StringLatin1", "charAt", "([BI)C"⟩ ∈ wU := wU_t2 186 rfl rfl
theorem w2_187 : Cond.static ⟨"java/lang/StringLatin1", "charAt", "([BI)C"⟩ ∈ wU := wU_t2 187 rfl rfl
theorem w2_188 : Cond.code ⟨"java/lang/StringLatin1", "charAt", "([BI)C"⟩ prog_17_method_2_code 2 (Option.some Jvm.ClassFile.FieldType.char) ∈ wU := wU_t2 188 rfl rfl
theorem w2_189 : Cond.methodLink "java/lang/StringLatin1" 9 ⟨"java/lang/String", "checkIndex", "(II)V"⟩ ∈ wU := wU_t2 189 rfl rfl
theorem w2_190 : Cond.static ⟨"java/lang/String", "checkIndex", "(II)V"⟩ ∈ wU := wU_t2 190 rfl rfl
theorem w2_191 : Cond.code ⟨"java/lang/String", "checkIndex", "(II)V"⟩ prog_16_method_155_code 2 (Option.none : Option Jvm.ClassFile.FieldType) ∈ wU := wU_t2 191 rfl rfl
theorem w2_192 : Cond.fieldLink "java/lang/String" 1053 "jdk/internal/util/Preconditions" "SIOOBE_FORMATTER" "Ljava/util/function/BiFunction;" ∈ wU := wU_t2 192 rfl rfl
theorem w2_194 : Cond.methodLink "java/lang/String" 1059 ⟨"jdk/internal/util/Preconditions", "checkIndex", "(IILjava/util/function/BiFunction;)I"⟩ ∈ wU := wU_t2 194 rfl rfl
theorem w2_195 : Cond.static ⟨"jdk/internal/util/Preconditions", "checkIndex", "(IILjava/util/function/BiFunction;)I"⟩ ∈ wU := wU_t2 195 rfl rfl
theorem w2_196 : Cond.code ⟨"jdk/internal/util/Preconditions", "checkIndex", "(IILjava/util/function/BiFunction;)I"⟩ prog_21_method_11_code 3 (Option.some Jvm.ClassFile.FieldType.int) ∈ wU := wU_t2 196 rfl rfl
theorem w2_197 : Cond.methodLink "java/lang/String" 498 ⟨"java/lang/StringUTF16", "charAt", "([BI)C"⟩ ∈ wU := wU_t2 197 rfl rfl
theorem w2_198 : Cond.static ⟨"java/lang/StringUTF16", "charAt", "([BI)C"⟩ ∈ wU := wU_t2 198 rfl rfl
theorem w2_199 : Cond.code ⟨"java/lang/StringUTF16", "charAt", "([BI)C"⟩ prog_18_method_83_code 2 (Option.some Jvm.ClassFile.FieldType.char) ∈ wU := wU_t2 199 rfl rfl
theorem w2_200 : Cond.methodLink "java/lang/StringUTF16" 67 ⟨"java/lang/StringUTF16", "checkIndex", "(I[B)V"⟩ ∈ wU := wU_t2 200 rfl rfl
theorem w2_201 : Cond.static ⟨"java/lang/StringUTF16", "checkIndex", "(I[B)V"⟩ ∈ wU := wU_t2 201 rfl rfl
theorem w2_202 : Cond.code ⟨"java/lang/StringUTF16", "checkIndex", "(I[B)V"⟩ prog_18_method_91_code 2 (Option.none : Option Jvm.ClassFile.FieldType) ∈ wU := wU_t2 202 rfl rfl
theorem w2_203 : Cond.methodLink "java/lang/StringUTF16" 48 ⟨"java/lang/StringUTF16", "length", "([B)I"⟩ ∈ wU := wU_t2 203 rfl rfl
theorem w2_204 : Cond.static ⟨"java/lang/StringUTF16", "length", "([B)I"⟩ ∈ wU := wU_t2 204 rfl rfl
theorem w2_205 : Cond.code ⟨"java/lang/StringUTF16", "length", "([B)I"⟩ prog_18_method_6_code 1 (Option.some Jvm.ClassFile.FieldType.int) ∈ wU := wU_t2 205 rfl rfl
theorem w2_206 : Cond.methodLink "java/lang/StringUTF16" 414 ⟨"java/lang/String", "checkIndex", "(II)V"⟩ ∈ wU := wU_t2 206 rfl rfl
theorem w2_207 : Cond.methodLink "java/lang/StringUTF16" 71 ⟨"java/lang/StringUTF16", "getChar", "([BI)C"⟩ ∈ wU := wU_t2 207 rfl rfl
theorem w2_208 : Cond.static ⟨"java/lang/StringUTF16", "getChar", "([BI)C"⟩ ∈ wU := wU_t2 208 rfl rfl
theorem w2_209 : Cond.code ⟨"java/lang/StringUTF16", "getChar", "([BI)C"⟩ prog_18_method_5_code 2 (Option.some Jvm.ClassFile.FieldType.char) ∈ wU := wU_t2 209 rfl rfl
theorem w2_210 : Cond.fieldLink "java/lang/StringUTF16" 44 "java/lang/StringUTF16" "$assertionsDisabled" "Z" ∈ wU := wU_t2 210 rfl rfl
theorem w2_212 : Cond.fieldLink "java/lang/StringUTF16" 59 "java/lang/StringUTF16" "HI_BYTE_SHIFT" "I" ∈ wU := wU_t2 212 rfl rfl
theorem w2_214 : Cond.fieldLink "java/lang/StringUTF16" 63 "java/lang/StringUTF16" "LO_BYTE_SHIFT" "I" ∈ wU := wU_t2 214 rfl rfl
theorem w2_216 : Cond.methodLink "HalfByFive$Reader" 47 ⟨"HalfByFive$Reader", "readNumber", "(II)I"⟩ ∈ wU := wU_t2 216 rfl rfl
theorem w2_218 : Cond.instanceMethod ⟨"HalfByFive$Reader", "readNumber", "(II)I"⟩ ∈ wU := wU_t2 218 rfl rfl
theorem w2_219 : Cond.code ⟨"HalfByFive$Reader", "readNumber", "(II)I"⟩ prog_8_method_10_code 3 (Option.some Jvm.ClassFile.FieldType.int) ∈ wU := wU_t2 219 rfl rfl
theorem w2_220 : Cond.methodLinkNest "HalfByFive$Reader" 97 ⟨"HalfByFive", "within", "(III)Z"⟩ "HalfByFive" ∈ wN := wN_t2 220 rfl rfl
theorem w2_221 : Cond.methodLink "HalfByFive$Reader" 51 ⟨"HalfByFive$Reader", "readsStop", "()Z"⟩ ∈ wU := wU_t2 221 rfl rfl
theorem w2_223 : Cond.instanceMethod ⟨"HalfByFive$Reader", "readsStop", "()Z"⟩ ∈ wU := wU_t2 223 rfl rfl
theorem w2_224 : Cond.code ⟨"HalfByFive$Reader", "readsStop", "()Z"⟩ prog_8_method_11_code 1 (Option.some Jvm.ClassFile.FieldType.boolean) ∈ wU := wU_t2 224 rfl rfl
theorem w2_225 : Cond.methodLinkNest "HalfByFive$Reader" 55 ⟨"HalfByFive$Market", "startAnew", "(II)V"⟩ "HalfByFive" ∈ wN := wN_t2 225 rfl rfl
theorem w2_226 : Cond.methodLink "HalfByFive$Reader" 38 ⟨"HalfByFive$Reader", "readsItem", "(LHalfByFive$Market;)Z"⟩ ∈ wU := wU_t2 226 rfl rfl
theorem w2_228 : Cond.instanceMethod ⟨"HalfByFive$Reader", "readsItem", "(LHalfByFive$Market;)Z"⟩ ∈ wU := wU_t2 228 rfl rfl
theorem w2_229 : Cond.code ⟨"HalfByFive$Reader", "readsItem", "(LHalfByFive$Market;)Z"⟩ prog_8_method_5_code 2 (Option.some Jvm.ClassFile.FieldType.boolean) ∈ wU := wU_t2 229 rfl rfl
theorem w2_231 : Cond.methodLink "HalfByFive$Reader" 63 ⟨"HalfByFive$Reader", "readsPrice", "(LHalfByFive$Market;)Z"⟩ ∈ wU := wU_t2 231 rfl rfl
theorem w2_233 : Cond.instanceMethod ⟨"HalfByFive$Reader", "readsPrice", "(LHalfByFive$Market;)Z"⟩ ∈ wU := wU_t2 233 rfl rfl
theorem w2_234 : Cond.code ⟨"HalfByFive$Reader", "readsPrice", "(LHalfByFive$Market;)Z"⟩ prog_8_method_6_code 4 (Option.some Jvm.ClassFile.FieldType.boolean) ∈ wU := wU_t2 234 rfl rfl
theorem w2_235 : Cond.methodLinkNest "HalfByFive$Reader" 84 ⟨"HalfByFive$Market", "setPricesFrom", "(II)V"⟩ "HalfByFive" ∈ wN := wN_t2 235 rfl rfl
theorem w2_237 : Cond.methodLink "HalfByFive$Reader" 68 ⟨"HalfByFive$Reader", "readsTheirs", "(LHalfByFive$Market;)Z"⟩ ∈ wU := wU_t2 237 rfl rfl
theorem w2_239 : Cond.instanceMethod ⟨"HalfByFive$Reader", "readsTheirs", "(LHalfByFive$Market;)Z"⟩ ∈ wU := wU_t2 239 rfl rfl
theorem w3_0 : Cond.code ⟨"HalfByFive$Reader", "readsTheirs", "(LHalfByFive$Market;)Z"⟩ prog_8_method_7_code 4 (Option.some Jvm.ClassFile.FieldType.boolean) ∈ wU := wU_t3 0 rfl rfl
theorem w3_1 : Cond.methodLinkNest "HalfByFive$Reader" 87 ⟨"HalfByFive$Market", "setTheirPrice", "(II)V"⟩ "HalfByFive" ∈ wN := wN_t3 1 rfl rfl
theorem w3_3 : Cond.methodLink "HalfByFive$Reader" 73 ⟨"HalfByFive$Reader", "readsRain", "(LHalfByFive$Market;)Z"⟩ ∈ wU := wU_t3 3 rfl rfl
theorem w3_5 : Cond.instanceMethod ⟨"HalfByFive$Reader", "readsRain", "(LHalfByFive$Market;)Z"⟩ ∈ wU := wU_t3 5 rfl rfl
theorem w3_6 : Cond.code ⟨"HalfByFive$Reader", "readsRain", "(LHalfByFive$Market;)Z"⟩ prog_8_method_8_code 3 (Option.some Jvm.ClassFile.FieldType.boolean) ∈ wU := wU_t3 6 rfl rfl
theorem w3_8 : Cond.methodLink "HalfByFive$Reader" 81 ⟨"HalfByFive$Reader", "readsBuyer", "(LHalfByFive$Market;)Z"⟩ ∈ wU := wU_t3 8 rfl rfl
theorem w3_10 : Cond.instanceMethod ⟨"HalfByFive$Reader", "readsBuyer", "(LHalfByFive$Market;)Z"⟩ ∈ wU := wU_t3 10 rfl rfl
theorem w3_11 : Cond.code ⟨"HalfByFive$Reader", "readsBuyer", "(LHalfByFive$Market;)Z"⟩ prog_8_method_9_code 6 (Option.some Jvm.ClassFile.FieldType.boolean) ∈ wU := wU_t3 11 rfl rfl
theorem w3_12 : Cond.methodLinkNest "HalfByFive$Reader" 93 ⟨"HalfByFive$Market", "addBuyer", "(IIII)V"⟩ "HalfByFive" ∈ wN := wN_t3 12 rfl rfl
theorem w3_13 : Cond.methodLinkNest "HalfByFive" 117 ⟨"HalfByFive$Market", "becomes", "(LHalfByFive$Market;)V"⟩ "HalfByFive" ∈ wN := wN_t3 13 rfl rfl
theorem w3_15 : Cond.instanceMethod ⟨"HalfByFive$Market", "becomes", "(LHalfByFive$Market;)V"⟩ ∈ wU := wU_t3 15 rfl rfl
theorem w3_16 : Cond.code ⟨"HalfByFive$Market", "becomes", "(LHalfByFive$Market;)V"⟩ prog_5_method_3_code 2 (Option.none : Option Jvm.ClassFile.FieldType) ∈ wU := wU_t3 16 rfl rfl
theorem w3_17 : Cond.methodLink "HalfByFive$Market" 70 ⟨"java/lang/System", "arraycopy", "(Ljava/lang/Object;ILjava/lang/Object;II)V"⟩ ∈ wU := wU_t3 17 rfl rfl
theorem w3_18 : Cond.static ⟨"java/lang/System", "arraycopy", "(Ljava/lang/Object;ILjava/lang/Object;II)V"⟩ ∈ wU := wU_t3 18 rfl rfl
theorem w3_19 : Cond.native ⟨"java/lang/System", "arraycopy", "(Ljava/lang/Object;ILjava/lang/Object;II)V"⟩ ∈ wU := wU_t3 19 rfl rfl
theorem w3_20 : Cond.arrayClass Jvm.ClassFile.FieldType.byte ∈ wU := wU_t3 20 rfl rfl
theorem w3_21 : Cond.methodLink "HalfByFiveLaw" 53 ⟨"HalfByFive", "day", "()I"⟩ ∈ wU := wU_t3 21 rfl rfl
theorem w3_22 : Cond.instanceMethod ⟨"HalfByFive", "day", "()I"⟩ ∈ wU := wU_t3 22 rfl rfl
theorem w3_23 : Cond.selects "HalfByFive" ⟨"HalfByFive", "day", "()I"⟩ ⟨"HalfByFive", "day", "()I"⟩ ∈ wU := wU_t3 23 rfl rfl
theorem w3_24 : Cond.code ⟨"HalfByFive", "day", "()I"⟩ prog_1_method_11_code 1 (Option.some Jvm.ClassFile.FieldType.int) ∈ wU := wU_t3 24 rfl rfl
theorem w3_25 : Cond.methodLinkNest "HalfByFive" 121 ⟨"HalfByFive$Market", "keepPast", "()V"⟩ "HalfByFive" ∈ wN := wN_t3 25 rfl rfl
theorem w3_27 : Cond.instanceMethod ⟨"HalfByFive$Market", "keepPast", "()V"⟩ ∈ wU := wU_t3 27 rfl rfl
theorem w3_28 : Cond.code ⟨"HalfByFive$Market", "keepPast", "()V"⟩ prog_5_method_12_code 2 (Option.none : Option Jvm.ClassFile.FieldType) ∈ wU := wU_t3 28 rfl rfl
theorem w3_29 : Cond.methodLinkNest "HalfByFive" 124 ⟨"HalfByFive$Day", "run", "(LHalfByFive$Market;)V"⟩ "HalfByFive" ∈ wN := wN_t3 29 rfl rfl
theorem w3_31 : Cond.instanceMethod ⟨"HalfByFive$Day", "run", "(LHalfByFive$Market;)V"⟩ ∈ wU := wU_t3 31 rfl rfl
theorem w3_32 : Cond.code ⟨"HalfByFive$Day", "run", "(LHalfByFive$Market;)V"⟩ prog_4_method_2_code 2 (Option.none : Option Jvm.ClassFile.FieldType) ∈ wU := wU_t3 32 rfl rfl
theorem w3_33 : Cond.methodLink "HalfByFive$Day" 69 ⟨"HalfByFive$Day", "plan", "(LHalfByFive$Market;)V"⟩ ∈ wU := wU_t3 33 rfl rfl
theorem w3_35 : Cond.instanceMethod ⟨"HalfByFive$Day", "plan", "(LHalfByFive$Market;)V"⟩ ∈ wU := wU_t3 35 rfl rfl
theorem w3_36 : Cond.code ⟨"HalfByFive$Day", "plan", "(LHalfByFive$Market;)V"⟩ prog_4_method_3_code 5 (Option.none : Option Jvm.ClassFile.FieldType) ∈ wU := wU_t3 36 rfl rfl
theorem w3_37 : Cond.methodLink "HalfByFive$Day" 85 ⟨"HalfByFive$Day", "wayOf", "(I)LHalfByFive$Plain;"⟩ ∈ wU := wU_t3 37 rfl rfl
theorem w3_39 : Cond.instanceMethod ⟨"HalfByFive$Day", "wayOf", "(I)LHalfByFive$Plain;"⟩ ∈ wU := wU_t3 39 rfl rfl
theorem w3_40 : Cond.code ⟨"HalfByFive$Day", "wayOf", "(I)LHalfByFive$Plain;"⟩ prog_4_method_4_code 2 (Option.some (Jvm.ClassFile.FieldType.object "HalfByFive$Plain")) ∈ wU := wU_t3 40 rfl rfl
theorem w3_41 : Cond.methodLink "HalfByFive$Day" 92 ⟨"HalfByFive$Plain", "buysIn", "(LHalfByFive$Market;I)I"⟩ ∈ wU := wU_t3 41 rfl rfl
theorem w3_42 : Cond.instanceMethod ⟨"HalfByFive$Plain", "buysIn", "(LHalfByFive$Market;I)I"⟩ ∈ wU := wU_t3 42 rfl rfl
theorem w3_43 : Cond.selects "HalfByFive$Plain" ⟨"HalfByFive$Plain", "buysIn", "(LHalfByFive$Market;I)I"⟩ ⟨"HalfByFive$Plain", "buysIn", "(LHalfByFive$Market;I)I"⟩ ∈ wU := wU_t3 43 rfl rfl
theorem w3_44 : Cond.sameMethod "HalfByFive$Plain" "HalfByFive$Plain" "buysIn" "(LHalfByFive$Market;I)I" ∈ wU := wU_t3 44 rfl rfl
theorem w3_45 : Cond.selects "HalfByFive$Bag" ⟨"HalfByFive$Plain", "buysIn", "(LHalfByFive$Market;I)I"⟩ ⟨"HalfByFive$Bag", "buysIn", "(LHalfByFive$Market;I)I"⟩ ∈ wU := wU_t3 45 rfl rfl
theorem w3_46 : Cond.instanceMethod ⟨"HalfByFive$Bag", "buysIn", "(LHalfByFive$Market;I)I"⟩ ∈ wU := wU_t3 46 rfl rfl
theorem w3_47 : Cond.code ⟨"HalfByFive$Bag", "buysIn", "(LHalfByFive$Market;I)I"⟩ prog_2_method_2_code 3 (Option.some Jvm.ClassFile.FieldType.int) ∈ wU := wU_t3 47 rfl rfl
theorem w3_48 : Cond.selects "HalfByFive$Cook" ⟨"HalfByFive$Plain", "buysIn", "(LHalfByFive$Market;I)I"⟩ ⟨"HalfByFive$Plain", "buysIn", "(LHalfByFive$Market;I)I"⟩ ∈ wU := wU_t3 48 rfl rfl
theorem w3_49 : Cond.selects "HalfByFive$Pair" ⟨"HalfByFive$Plain", "buysIn", "(LHalfByFive$Market;I)I"⟩ ⟨"HalfByFive$Plain", "buysIn", "(LHalfByFive$Market;I)I"⟩ ∈ wU := wU_t3 49 rfl rfl
theorem w3_50 : Cond.selects "HalfByFive$School" ⟨"HalfByFive$Plain", "buysIn", "(LHalfByFive$Market;I)I"⟩ ⟨"HalfByFive$School", "buysIn", "(LHalfByFive$Market;I)I"⟩ ∈ wU := wU_t3 50 rfl rfl
theorem w3_51 : Cond.instanceMethod ⟨"HalfByFive$School", "buysIn", "(LHalfByFive$Market;I)I"⟩ ∈ wU := wU_t3 51 rfl rfl
theorem w3_52 : Cond.code ⟨"HalfByFive$School", "buysIn", "(LHalfByFive$Market;I)I"⟩ prog_9_method_2_code 3 (Option.some Jvm.ClassFile.FieldType.int) ∈ wU := wU_t3 52 rfl rfl
theorem w3_53 : Cond.methodLink "HalfByFive$School" 7 ⟨"HalfByFive$Waits", "buysIn", "(LHalfByFive$Market;I)I"⟩ ∈ wU := wU_t3 53 rfl rfl
theorem w3_54 : Cond.instanceMethod ⟨"HalfByFive$Waits", "buysIn", "(LHalfByFive$Market;I)I"⟩ ∈ wU := wU_t3 54 rfl rfl
theorem w3_55 : Cond.code ⟨"HalfByFive$Waits", "buysIn", "(LHalfByFive$Market;I)I"⟩ prog_11_method_2_code 5 (Option.some Jvm.ClassFile.FieldType.int) ∈ wU := wU_t3 55 rfl rfl
theorem w3_56 : Cond.methodLink "HalfByFive$Waits" 9 ⟨"HalfByFive$Plain", "buysIn", "(LHalfByFive$Market;I)I"⟩ ∈ wU := wU_t3 56 rfl rfl
theorem w3_57 : Cond.methodLink "HalfByFive$Waits" 13 ⟨"java/lang/Math", "min", "(II)I"⟩ ∈ wU := wU_t3 57 rfl rfl
theorem w3_58 : Cond.static ⟨"java/lang/Math", "min", "(II)I"⟩ ∈ wU := wU_t3 58 rfl rfl
theorem w3_59 : Cond.code ⟨"java/lang/Math", "min", "(II)I"⟩ prog_15_method_69_code 2 (Option.some Jvm.ClassFile.FieldType.int) ∈ wU := wU_t3 59 rfl rfl
theorem w3_60 : Cond.methodLinkNest "HalfByFive$Waits" 19 ⟨"HalfByFive$Market", "priceIn", "(I)I"⟩ "HalfByFive" ∈ wN := wN_t3 60 rfl rfl
theorem w3_61 : Cond.methodLink "HalfByFive$School" 11 ⟨"java/lang/Math", "max", "(II)I"⟩ ∈ wU := wU_t3 61 rfl rfl
theorem w3_62 : Cond.selects "HalfByFive$Waits" ⟨"HalfByFive$Plain", "buysIn", "(LHalfByFive$Market;I)I"⟩ ⟨"HalfByFive$Waits", "buysIn", "(LHalfByFive$Market;I)I"⟩ ∈ wU := wU_t3 62 rfl rfl
theorem w3_63 : Cond.code ⟨"HalfByFive$Plain", "buysIn", "(LHalfByFive$Market;I)I"⟩ prog_7_method_2_code 3 (Option.some Jvm.ClassFile.FieldType.int) ∈ wU := wU_t3 63 rfl rfl
theorem w3_64 : Cond.methodLink "HalfByFive$Day" 102 ⟨"HalfByFive$Plain", "paysAtMost", "(II)I"⟩ ∈ wU := wU_t3 64 rfl rfl
theorem w3_65 : Cond.instanceMethod ⟨"HalfByFive$Plain", "paysAtMost", "(II)I"⟩ ∈ wU := wU_t3 65 rfl rfl
theorem w3_66 : Cond.selects "HalfByFive$Plain" ⟨"HalfByFive$Plain", "paysAtMost", "(II)I"⟩ ⟨"HalfByFive$Plain", "paysAtMost", "(II)I"⟩ ∈ wU := wU_t3 66 rfl rfl
theorem w3_67 : Cond.sameMethod "HalfByFive$Plain" "HalfByFive$Plain" "paysAtMost" "(II)I" ∈ wU := wU_t3 67 rfl rfl
theorem w3_68 : Cond.selects "HalfByFive$Bag" ⟨"HalfByFive$Plain", "paysAtMost", "(II)I"⟩ ⟨"HalfByFive$Bag", "paysAtMost", "(II)I"⟩ ∈ wU := wU_t3 68 rfl rfl
theorem w3_69 : Cond.instanceMethod ⟨"HalfByFive$Bag", "paysAtMost", "(II)I"⟩ ∈ wU := wU_t3 69 rfl rfl
theorem w3_70 : Cond.code ⟨"HalfByFive$Bag", "paysAtMost", "(II)I"⟩ prog_2_method_3_code 3 (Option.some Jvm.ClassFile.FieldType.int) ∈ wU := wU_t3 70 rfl rfl
theorem w3_71 : Cond.methodLink "HalfByFive$Bag" 9 ⟨"HalfByFive$Waits", "paysAtMost", "(II)I"⟩ ∈ wU := wU_t3 71 rfl rfl
theorem w3_72 : Cond.sameMethod "HalfByFive$Waits" "HalfByFive$Plain" "paysAtMost" "(II)I" ∈ wU := wU_t3 72 rfl rfl
theorem w3_74 : Cond.selects "HalfByFive$Cook" ⟨"HalfByFive$Plain", "paysAtMost", "(II)I"⟩ ⟨"HalfByFive$Cook", "paysAtMost", "(II)I"⟩ ∈ wU := wU_t3 74 rfl rfl
theorem w3_75 : Cond.instanceMethod ⟨"HalfByFive$Cook", "paysAtMost", "(II)I"⟩ ∈ wU := wU_t3 75 rfl rfl
theorem w3_76 : Cond.code ⟨"HalfByFive$Cook", "paysAtMost", "(II)I"⟩ prog_3_method_2_code 3 (Option.some Jvm.ClassFile.FieldType.int) ∈ wU := wU_t3 76 rfl rfl
theorem w3_77 : Cond.methodLink "HalfByFive$Cook" 7 ⟨"HalfByFive$Plain", "paysAtMost", "(II)I"⟩ ∈ wU := wU_t3 77 rfl rfl
theorem w3_78 : Cond.selects "HalfByFive$Pair" ⟨"HalfByFive$Plain", "paysAtMost", "(II)I"⟩ ⟨"HalfByFive$Pair", "paysAtMost", "(II)I"⟩ ∈ wU := wU_t3 78 rfl rfl
theorem w3_79 : Cond.instanceMethod ⟨"HalfByFive$Pair", "paysAtMost", "(II)I"⟩ ∈ wU := wU_t3 79 rfl rfl
theorem w3_80 : Cond.code ⟨"HalfByFive$Pair", "paysAtMost", "(II)I"⟩ prog_6_method_2_code 3 (Option.some Jvm.ClassFile.FieldType.int) ∈ wU := wU_t3 80 rfl rfl
theorem w3_81 : Cond.methodLink "HalfByFive$Pair" 7 ⟨"HalfByFive$Plain", "paysAtMost", "(II)I"⟩ ∈ wU := wU_t3 81 rfl rfl
theorem w3_82 : Cond.selects "HalfByFive$School" ⟨"HalfByFive$Plain", "paysAtMost", "(II)I"⟩ ⟨"HalfByFive$School", "paysAtMost", "(II)I"⟩ ∈ wU := wU_t3 82 rfl rfl
theorem w3_83 : Cond.instanceMethod ⟨"HalfByFive$School", "paysAtMost", "(II)I"⟩ ∈ wU := wU_t3 83 rfl rfl
theorem w3_84 : Cond.code ⟨"HalfByFive$School", "paysAtMost", "(II)I"⟩ prog_9_method_3_code 3 (Option.some Jvm.ClassFile.FieldType.int) ∈ wU := wU_t3 84 rfl rfl
theorem w3_85 : Cond.methodLink "HalfByFive$School" 17 ⟨"HalfByFive$Waits", "paysAtMost", "(II)I"⟩ ∈ wU := wU_t3 85 rfl rfl
theorem w3_86 : Cond.selects "HalfByFive$Waits" ⟨"HalfByFive$Plain", "paysAtMost", "(II)I"⟩ ⟨"HalfByFive$Plain", "paysAtMost", "(II)I"⟩ ∈ wU := wU_t3 86 rfl rfl
theorem w3_87 : Cond.code ⟨"HalfByFive$Plain", "paysAtMost", "(II)I"⟩ prog_7_method_3_code 3 (Option.some Jvm.ClassFile.FieldType.int) ∈ wU := wU_t3 87 rfl rfl
theorem w3_88 : Cond.methodLink "HalfByFive$Plain" 7 ⟨"java/lang/Math", "max", "(II)I"⟩ ∈ wU := wU_t3 88 rfl rfl
theorem w3_89 : Cond.methodLink "HalfByFive$Day" 109 ⟨"HalfByFive$Plain", "carriesOff", "(I)I"⟩ ∈ wU := wU_t3 89 rfl rfl
theorem w3_90 : Cond.instanceMethod ⟨"HalfByFive$Plain", "carriesOff", "(I)I"⟩ ∈ wU := wU_t3 90 rfl rfl
theorem w3_91 : Cond.selects "HalfByFive$Plain" ⟨"HalfByFive$Plain", "carriesOff", "(I)I"⟩ ⟨"HalfByFive$Plain", "carriesOff", "(I)I"⟩ ∈ wU := wU_t3 91 rfl rfl
theorem w3_92 : Cond.sameMethod "HalfByFive$Plain" "HalfByFive$Plain" "carriesOff" "(I)I" ∈ wU := wU_t3 92 rfl rfl
theorem w3_93 : Cond.selects "HalfByFive$Bag" ⟨"HalfByFive$Plain", "carriesOff", "(I)I"⟩ ⟨"HalfByFive$Bag", "carriesOff", "(I)I"⟩ ∈ wU := wU_t3 93 rfl rfl
theorem w3_94 : Cond.instanceMethod ⟨"HalfByFive$Bag", "carriesOff", "(I)I"⟩ ∈ wU := wU_t3 94 rfl rfl
theorem w3_95 : Cond.code ⟨"HalfByFive$Bag", "carriesOff", "(I)I"⟩ prog_2_method_4_code 2 (Option.some Jvm.ClassFile.FieldType.int) ∈ wU := wU_t3 95 rfl rfl
theorem w3_96 : Cond.methodLink "HalfByFive$Bag" 13 ⟨"HalfByFive$Waits", "carriesOff", "(I)I"⟩ ∈ wU := wU_t3 96 rfl rfl
theorem w3_97 : Cond.sameMethod "HalfByFive$Waits" "HalfByFive$Plain" "carriesOff" "(I)I" ∈ wU := wU_t3 97 rfl rfl
theorem w3_99 : Cond.selects "HalfByFive$Cook" ⟨"HalfByFive$Plain", "carriesOff", "(I)I"⟩ ⟨"HalfByFive$Plain", "carriesOff", "(I)I"⟩ ∈ wU := wU_t3 99 rfl rfl
theorem w3_100 : Cond.selects "HalfByFive$Pair" ⟨"HalfByFive$Plain", "carriesOff", "(I)I"⟩ ⟨"HalfByFive$Pair", "carriesOff", "(I)I"⟩ ∈ wU := wU_t3 100 rfl rfl
theorem w3_101 : Cond.instanceMethod ⟨"HalfByFive$Pair", "carriesOff", "(I)I"⟩ ∈ wU := wU_t3 101 rfl rfl
theorem w3_102 : Cond.code ⟨"HalfByFive$Pair", "carriesOff", "(I)I"⟩ prog_6_method_3_code 2 (Option.some Jvm.ClassFile.FieldType.int) ∈ wU := wU_t3 102 rfl rfl
theorem w3_103 : Cond.methodLink "HalfByFive$Pair" 11 ⟨"HalfByFive$Plain", "carriesOff", "(I)I"⟩ ∈ wU := wU_t3 103 rfl rfl
theorem w3_104 : Cond.selects "HalfByFive$School" ⟨"HalfByFive$Plain", "carriesOff", "(I)I"⟩ ⟨"HalfByFive$Plain", "carriesOff", "(I)I"⟩ ∈ wU := wU_t3 104 rfl rfl
theorem w3_105 : Cond.selects "HalfByFive$Waits" ⟨"HalfByFive$Plain", "carriesOff", "(I)I"⟩ ⟨"HalfByFive$Plain", "carriesOff", "(I)I"⟩ ∈ wU := wU_t3 105 rfl rfl
theorem w3_106 : Cond.code ⟨"HalfByFive$Plain", "carriesOff", "(I)I"⟩ prog_7_method_4_code 2 (Option.some Jvm.ClassFile.FieldType.int) ∈ wU := wU_t3 106 rfl rfl
theorem w3_107 : Cond.methodLinkNest "HalfByFive$Day" 113 ⟨"HalfByFive$Market", "rainsIn", "(I)Z"⟩ "HalfByFive" ∈ wN := wN_t3 107 rfl rfl
theorem w3_109 : Cond.instanceMethod ⟨"HalfByFive$Market", "rainsIn", "(I)Z"⟩ ∈ wU := wU_t3 109 rfl rfl
theorem w3_110 : Cond.code ⟨"HalfByFive$Market", "rainsIn", "(I)Z"⟩ prog_5_method_6_code 2 (Option.some Jvm.ClassFile.FieldType.boolean) ∈ wU := wU_t3 110 rfl rfl
theorem w3_111 : Cond.methodLink "HalfByFive$Day" 117 ⟨"HalfByFive$Plain", "comesInRain", "()Z"⟩ ∈ wU := wU_t3 111 rfl rfl
theorem w3_112 : Cond.instanceMethod ⟨"HalfByFive$Plain", "comesInRain", "()Z"⟩ ∈ wU := wU_t3 112 rfl rfl
theorem w3_113 : Cond.selects "HalfByFive$Plain" ⟨"HalfByFive$Plain", "comesInRain", "()Z"⟩ ⟨"HalfByFive$Plain", "comesInRain", "()Z"⟩ ∈ wU := wU_t3 113 rfl rfl
theorem w3_114 : Cond.sameMethod "HalfByFive$Plain" "HalfByFive$Plain" "comesInRain" "()Z" ∈ wU := wU_t3 114 rfl rfl
theorem w3_115 : Cond.selects "HalfByFive$Bag" ⟨"HalfByFive$Plain", "comesInRain", "()Z"⟩ ⟨"HalfByFive$Bag", "comesInRain", "()Z"⟩ ∈ wU := wU_t3 115 rfl rfl
theorem w3_116 : Cond.instanceMethod ⟨"HalfByFive$Bag", "comesInRain", "()Z"⟩ ∈ wU := wU_t3 116 rfl rfl
theorem w3_117 : Cond.code ⟨"HalfByFive$Bag", "comesInRain", "()Z"⟩ prog_2_method_5_code 1 (Option.some Jvm.ClassFile.FieldType.boolean) ∈ wU := wU_t3 117 rfl rfl
theorem w3_118 : Cond.selects "HalfByFive$Cook" ⟨"HalfByFive$Plain", "comesInRain", "()Z"⟩ ⟨"HalfByFive$Cook", "comesInRain", "()Z"⟩ ∈ wU := wU_t3 118 rfl rfl
theorem w3_119 : Cond.instanceMethod ⟨"HalfByFive$Cook", "comesInRain", "()Z"⟩ ∈ wU := wU_t3 119 rfl rfl
theorem w3_120 : Cond.code ⟨"HalfByFive$Cook", "comesInRain", "()Z"⟩ prog_3_method_3_code 1 (Option.some Jvm.ClassFile.FieldType.boolean) ∈ wU := wU_t3 120 rfl rfl
theorem w3_121 : Cond.selects "HalfByFive$Pair" ⟨"HalfByFive$Plain", "comesInRain", "()Z"⟩ ⟨"HalfByFive$Plain", "comesInRain", "()Z"⟩ ∈ wU := wU_t3 121 rfl rfl
theorem w3_122 : Cond.selects "HalfByFive$School" ⟨"HalfByFive$Plain", "comesInRain", "()Z"⟩ ⟨"HalfByFive$Plain", "comesInRain", "()Z"⟩ ∈ wU := wU_t3 122 rfl rfl
theorem w3_123 : Cond.selects "HalfByFive$Waits" ⟨"HalfByFive$Plain", "comesInRain", "()Z"⟩ ⟨"HalfByFive$Plain", "comesInRain", "()Z"⟩ ∈ wU := wU_t3 123 rfl rfl
theorem w3_124 : Cond.code ⟨"HalfByFive$Plain", "comesInRain", "()Z"⟩ prog_7_method_5_code 1 (Option.some Jvm.ClassFile.FieldType.boolean) ∈ wU := wU_t3 124 rfl rfl
theorem w3_125 : Cond.methodLink "HalfByFive$Day" 121 ⟨"HalfByFive$Day", "lineUp", "(I)V"⟩ ∈ wU := wU_t3 125 rfl rfl
theorem w3_127 : Cond.instanceMethod ⟨"HalfByFive$Day", "lineUp", "(I)V"⟩ ∈ wU := wU_t3 127 rfl rfl
theorem w3_128 : Cond.code ⟨"HalfByFive$Day", "lineUp", "(I)V"⟩ prog_4_method_5_code 3 (Option.none : Option Jvm.ClassFile.FieldType) ∈ wU := wU_t3 128 rfl rfl
theorem w3_129 : Cond.methodLink "HalfByFive$Day" 125 ⟨"HalfByFive$Day", "hourOf", "(I)I"⟩ ∈ wU := wU_t3 129 rfl rfl
theorem w3_131 : Cond.instanceMethod ⟨"HalfByFive$Day", "hourOf", "(I)I"⟩ ∈ wU := wU_t3 131 rfl rfl
theorem w3_132 : Cond.code ⟨"HalfByFive$Day", "hourOf", "(I)I"⟩ prog_4_method_6_code 2 (Option.some Jvm.ClassFile.FieldType.int) ∈ wU := wU_t3 132 rfl rfl
theorem w3_133 : Cond.methodLink "HalfByFive$Day" 73 ⟨"HalfByFive$Day", "walk", "(LHalfByFive$Market;I)V"⟩ ∈ wU := wU_t3 133 rfl rfl
theorem w3_135 : Cond.instanceMethod ⟨"HalfByFive$Day", "walk", "(LHalfByFive$Market;I)V"⟩ ∈ wU := wU_t3 135 rfl rfl
theorem w3_136 : Cond.code ⟨"HalfByFive$Day", "walk", "(LHalfByFive$Market;I)V"⟩ prog_4_method_8_code 5 (Option.none : Option Jvm.ClassFile.FieldType) ∈ wU := wU_t3 136 rfl rfl
theorem w3_137 : Cond.methodLink "HalfByFive$Day" 131 ⟨"java/util/Arrays", "fill", "([II)V"⟩ ∈ wU := wU_t3 137 rfl rfl
theorem w3_138 : Cond.methodLink "HalfByFive$Day" 137 ⟨"HalfByFive$Day", "meet", "(LHalfByFive$Market;I)V"⟩ ∈ wU := wU_t3 138 rfl rfl
theorem w3_140 : Cond.instanceMethod ⟨"HalfByFive$Day", "meet", "(LHalfByFive$Market;I)V"⟩ ∈ wU := wU_t3 140 rfl rfl
theorem w3_141 : Cond.code ⟨"HalfByFive$Day", "meet", "(LHalfByFive$Market;I)V"⟩ prog_4_method_9_code 5 (Option.none : Option Jvm.ClassFile.FieldType) ∈ wU := wU_t3 141 rfl rfl
theorem w3_142 : Cond.methodLinkNest "HalfByFive$Day" 140 ⟨"HalfByFive$Market", "priceIn", "(I)I"⟩ "HalfByFive" ∈ wN := wN_t3 142 rfl rfl
theorem w3_143 : Cond.methodLinkNest "HalfByFive$Day" 143 ⟨"HalfByFive$Market", "theirPriceIn", "(I)I"⟩ "HalfByFive" ∈ wN := wN_t3 143 rfl rfl
theorem w3_144 : Cond.methodLink "HalfByFive$Day" 146 ⟨"HalfByFive$Day", "sell", "(II)V"⟩ ∈ wU := wU_t3 144 rfl rfl
theorem w3_146 : Cond.instanceMethod ⟨"HalfByFive$Day", "sell", "(II)V"⟩ ∈ wU := wU_t3 146 rfl rfl
theorem w3_147 : Cond.code ⟨"HalfByFive$Day", "sell", "(II)V"⟩ prog_4_method_10_code 5 (Option.none : Option Jvm.ClassFile.FieldType) ∈ wU := wU_t3 147 rfl rfl
theorem w3_148 : Cond.methodLink "HalfByFive$Day" 150 ⟨"java/lang/Math", "min", "(II)I"⟩ ∈ wU := wU_t3 148 rfl rfl
theorem w3_149 : Cond.methodLinkNest "HalfByFive" 139 ⟨"HalfByFive$Day", "teach", "(LHalfByFive$Market;)V"⟩ "HalfByFive" ∈ wN := wN_t3 149 rfl rfl
theorem w3_151 : Cond.instanceMethod ⟨"HalfByFive$Day", "teach", "(LHalfByFive$Market;)V"⟩ ∈ wU := wU_t3 151 rfl rfl
theorem w3_152 : Cond.code ⟨"HalfByFive$Day", "teach", "(LHalfByFive$Market;)V"⟩ prog_4_method_13_code 4 (Option.none : Option Jvm.ClassFile.FieldType) ∈ wU := wU_t3 152 rfl rfl
theorem w3_153 : Cond.methodLink "HalfByFive$Day" 167 ⟨"HalfByFive$Day", "mayLearnToWait", "(I)Z"⟩ ∈ wU := wU_t3 153 rfl rfl
theorem w3_155 : Cond.instanceMethod ⟨"HalfByFive$Day", "mayLearnToWait", "(I)Z"⟩ ∈ wU := wU_t3 155 rfl rfl
theorem w3_156 : Cond.code ⟨"HalfByFive$Day", "mayLearnToWait", "(I)Z"⟩ prog_4_method_14_code 2 (Option.some Jvm.ClassFile.FieldType.boolean) ∈ wU := wU_t3 156 rfl rfl
theorem w3_157 : Cond.methodLink "HalfByFive$Day" 170 ⟨"HalfByFive$Day", "paidTooMuch", "(LHalfByFive$Market;I)Z"⟩ ∈ wU := wU_t3 157 rfl rfl
theorem w3_159 : Cond.instanceMethod ⟨"HalfByFive$Day", "paidTooMuch", "(LHalfByFive$Market;I)Z"⟩ ∈ wU := wU_t3 159 rfl rfl
theorem w3_160 : Cond.code ⟨"HalfByFive$Day", "paidTooMuch", "(LHalfByFive$Market;I)Z"⟩ prog_4_method_15_code 3 (Option.some Jvm.ClassFile.FieldType.boolean) ∈ wU := wU_t3 160 rfl rfl
theorem w3_161 : Cond.methodLinkNest "HalfByFive$Day" 174 ⟨"HalfByFive$Market", "fallsBelowBehind", "(II)Z"⟩ "HalfByFive" ∈ wN := wN_t3 161 rfl rfl
theorem w3_163 : Cond.instanceMethod ⟨"HalfByFive$Market", "fallsBelowBehind", "(II)Z"⟩ ∈ wU := wU_t3 163 rfl rfl
theorem w3_164 : Cond.code ⟨"HalfByFive$Market", "fallsBelowBehind", "(II)Z"⟩ prog_5_method_14_code 4 (Option.some Jvm.ClassFile.FieldType.boolean) ∈ wU := wU_t3 164 rfl rfl
theorem w3_165 : Cond.methodLink "HalfByFiveLaw" 57 ⟨"HalfByFive", "undo", "()I"⟩ ∈ wU := wU_t3 165 rfl rfl
theorem w3_166 : Cond.instanceMethod ⟨"HalfByFive", "undo", "()I"⟩ ∈ wU := wU_t3 166 rfl rfl
theorem w3_167 : Cond.selects "HalfByFive" ⟨"HalfByFive", "undo", "()I"⟩ ⟨"HalfByFive", "undo", "()I"⟩ ∈ wU := wU_t3 167 rfl rfl
theorem w3_168 : Cond.code ⟨"HalfByFive", "undo", "()I"⟩ prog_1_method_12_code 1 (Option.some Jvm.ClassFile.FieldType.int) ∈ wU := wU_t3 168 rfl rfl
theorem w3_169 : Cond.methodLinkNest "HalfByFive" 145 ⟨"HalfByFive$Market", "goBack", "()V"⟩ "HalfByFive" ∈ wN := wN_t3 169 rfl rfl
theorem w3_171 : Cond.instanceMethod ⟨"HalfByFive$Market", "goBack", "()V"⟩ ∈ wU := wU_t3 171 rfl rfl
theorem w3_172 : Cond.code ⟨"HalfByFive$Market", "goBack", "()V"⟩ prog_5_method_13_code 2 (Option.none : Option Jvm.ClassFile.FieldType) ∈ wU := wU_t3 172 rfl rfl
theorem w3_173 : Cond.methodLink "HalfByFiveLaw" 61 ⟨"HalfByFive", "of", "(II)I"⟩ ∈ wU := wU_t3 173 rfl rfl
theorem w3_174 : Cond.instanceMethod ⟨"HalfByFive", "of", "(II)I"⟩ ∈ wU := wU_t3 174 rfl rfl
theorem w3_175 : Cond.selects "HalfByFive" ⟨"HalfByFive", "of", "(II)I"⟩ ⟨"HalfByFive", "of", "(II)I"⟩ ∈ wU := wU_t3 175 rfl rfl
theorem w3_176 : Cond.code ⟨"HalfByFive", "of", "(II)I"⟩ prog_1_method_13_code 3 (Option.some Jvm.ClassFile.FieldType.int) ∈ wU := wU_t3 176 rfl rfl
theorem w3_177 : Cond.methodLinkNest "HalfByFive" 148 ⟨"HalfByFive$Market", "rainsIn", "(I)Z"⟩ "HalfByFive" ∈ wN := wN_t3 177 rfl rfl
theorem w3_178 : Cond.methodLinkNest "HalfByFive" 151 ⟨"HalfByFive$Day", "goneIn", "(I)I"⟩ "HalfByFive" ∈ wN := wN_t3 178 rfl rfl
theorem w3_180 : Cond.instanceMethod ⟨"HalfByFive$Day", "goneIn", "(I)I"⟩ ∈ wU := wU_t3 180 rfl rfl
theorem w3_181 : Cond.code ⟨"HalfByFive$Day", "goneIn", "(I)I"⟩ prog_4_method_11_code 2 (Option.some Jvm.ClassFile.FieldType.int) ∈ wU := wU_t3 181 rfl rfl
theorem w3_182 : Cond.methodLink "HalfByFiveLaw" 65 ⟨"HalfByFive", "about", "(II)I"⟩ ∈ wU := wU_t3 182 rfl rfl
theorem w3_183 : Cond.instanceMethod ⟨"HalfByFive", "about", "(II)I"⟩ ∈ wU := wU_t3 183 rfl rfl
theorem w3_184 : Cond.selects "HalfByFive" ⟨"HalfByFive", "about", "(II)I"⟩ ⟨"HalfByFive", "about", "(II)I"⟩ ∈ wU := wU_t3 184 rfl rfl
theorem w3_185 : Cond.code ⟨"HalfByFive", "about", "(II)I"⟩ prog_1_method_14_code 3 (Option.some Jvm.ClassFile.FieldType.int) ∈ wU := wU_t3 185 rfl rfl
theorem w3_186 : Cond.methodLink "HalfByFive" 154 ⟨"HalfByFive", "isBuyer", "(I)Z"⟩ ∈ wU := wU_t3 186 rfl rfl
theorem w3_188 : Cond.instanceMethod ⟨"HalfByFive", "isBuyer", "(I)Z"⟩ ∈ wU := wU_t3 188 rfl rfl
theorem w3_189 : Cond.code ⟨"HalfByFive", "isBuyer", "(I)Z"⟩ prog_1_method_35_code 2 (Option.some Jvm.ClassFile.FieldType.boolean) ∈ wU := wU_t3 189 rfl rfl
theorem w3_190 : Cond.methodLinkNest "HalfByFive" 170 ⟨"HalfByFive$Day", "plan", "(LHalfByFive$Market;)V"⟩ "HalfByFive" ∈ wN := wN_t3 190 rfl rfl
theorem w3_191 : Cond.methodLink "HalfByFiveLaw" 69 ⟨"HalfByFive", "takes", "(I)I"⟩ ∈ wU := wU_t3 191 rfl rfl
theorem w3_192 : Cond.instanceMethod ⟨"HalfByFive", "takes", "(I)I"⟩ ∈ wU := wU_t3 192 rfl rfl
theorem w3_193 : Cond.selects "HalfByFive" ⟨"HalfByFive", "takes", "(I)I"⟩ ⟨"HalfByFive", "takes", "(I)I"⟩ ∈ wU := wU_t3 193 rfl rfl
theorem w3_194 : Cond.code ⟨"HalfByFive", "takes", "(I)I"⟩ prog_1_method_15_code 2 (Option.some Jvm.ClassFile.FieldType.int) ∈ wU := wU_t3 194 rfl rfl
theorem w3_195 : Cond.methodLink "HalfByFiveLaw" 73 ⟨"HalfByFive", "to", "(II)I"⟩ ∈ wU := wU_t3 195 rfl rfl
theorem w3_196 : Cond.instanceMethod ⟨"HalfByFive", "to", "(II)I"⟩ ∈ wU := wU_t3 196 rfl rfl
theorem w3_197 : Cond.selects "HalfByFive" ⟨"HalfByFive", "to", "(II)I"⟩ ⟨"HalfByFive", "to", "(II)I"⟩ ∈ wU := wU_t3 197 rfl rfl
theorem w3_198 : Cond.code ⟨"HalfByFive", "to", "(II)I"⟩ prog_1_method_16_code 3 (Option.some Jvm.ClassFile.FieldType.int) ∈ wU := wU_t3 198 rfl rfl
theorem w3_199 : Cond.methodLink "HalfByFiveLaw" 77 ⟨"HalfByFive", "best", "(IIII)I"⟩ ∈ wU := wU_t3 199 rfl rfl
theorem w3_200 : Cond.instanceMethod ⟨"HalfByFive", "best", "(IIII)I"⟩ ∈ wU := wU_t3 200 rfl rfl
theorem w3_201 : Cond.selects "HalfByFive" ⟨"HalfByFive", "best", "(IIII)I"⟩ ⟨"HalfByFive", "best", "(IIII)I"⟩ ∈ wU := wU_t3 201 rfl rfl
theorem w3_202 : Cond.code ⟨"HalfByFive", "best", "(IIII)I"⟩ prog_1_method_17_code 9 (Option.some Jvm.ClassFile.FieldType.int) ∈ wU := wU_t3 202 rfl rfl
theorem w3_203 : Cond.methodLink "HalfByFive" 188 ⟨"HalfByFive", "fall", "(II)Z"⟩ ∈ wU := wU_t3 203 rfl rfl
theorem w3_204 : Cond.static ⟨"HalfByFive", "fall", "(II)Z"⟩ ∈ wU := wU_t3 204 rfl rfl
theorem w3_205 : Cond.code ⟨"HalfByFive", "fall", "(II)Z"⟩ prog_1_method_39_code 2 (Option.some Jvm.ClassFile.FieldType.boolean) ∈ wU := wU_t3 205 rfl rfl
theorem w3_206 : Cond.methodLink "HalfByFive" 192 ⟨"HalfByFive", "pairOf", "(II)I"⟩ ∈ wU := wU_t3 206 rfl rfl
theorem w3_207 : Cond.static ⟨"HalfByFive", "pairOf", "(II)I"⟩ ∈ wU := wU_t3 207 rfl rfl
theorem w3_208 : Cond.code ⟨"HalfByFive", "pairOf", "(II)I"⟩ prog_1_method_40_code 2 (Option.some Jvm.ClassFile.FieldType.int) ∈ wU := wU_t3 208 rfl rfl
theorem w3_209 : Cond.methodLink "HalfByFiveLaw" 81 ⟨"HalfByFive", "brings", "(I)I"⟩ ∈ wU := wU_t3 209 rfl rfl
theorem w3_210 : Cond.instanceMethod ⟨"HalfByFive", "brings", "(I)I"⟩ ∈ wU := wU_t3 210 rfl rfl
theorem w3_211 : Cond.selects "HalfByFive" ⟨"HalfByFive", "brings", "(I)I"⟩ ⟨"HalfByFive", "brings", "(I)I"⟩ ∈ wU := wU_t3 211 rfl rfl
theorem w3_212 : Cond.code ⟨"HalfByFive", "brings", "(I)I"⟩ prog_1_method_18_code 6 (Option.some Jvm.ClassFile.FieldType.int) ∈ wU := wU_t3 212 rfl rfl
theorem w3_213 : Cond.methodLinkNest "HalfByFive" 196 ⟨"HalfByFive$Day", "walk", "(LHalfByFive$Market;I)V"⟩ "HalfByFive" ∈ wN := wN_t3 213 rfl rfl
theorem w3_214 : Cond.methodLink "HalfByFiveLaw" 85 ⟨"HalfByFive", "come", "(I)I"⟩ ∈ wU := wU_t3 214 rfl rfl
theorem w3_215 : Cond.instanceMethod ⟨"HalfByFive", "come", "(I)I"⟩ ∈ wU := wU_t3 215 rfl rfl
theorem w3_216 : Cond.selects "HalfByFive" ⟨"HalfByFive", "come", "(I)I"⟩ ⟨"HalfByFive", "come", "(I)I"⟩ ∈ wU := wU_t3 216 rfl rfl
theorem w3_217 : Cond.code ⟨"HalfByFive", "come", "(I)I"⟩ prog_1_method_19_code 7 (Option.some Jvm.ClassFile.FieldType.int) ∈ wU := wU_t3 217 rfl rfl
theorem w3_218 : Cond.methodLink "HalfByFiveLaw" 89 ⟨"HalfByFive", "stalls", "(III)I"⟩ ∈ wU := wU_t3 218 rfl rfl
theorem w3_219 : Cond.instanceMethod ⟨"HalfByFive", "stalls", "(III)I"⟩ ∈ wU := wU_t3 219 rfl rfl
theorem w3_220 : Cond.selects "HalfByFive" ⟨"HalfByFive", "stalls", "(III)I"⟩ ⟨"HalfByFive", "stalls", "(III)I"⟩ ∈ wU := wU_t3 220 rfl rfl
theorem w3_221 : Cond.code ⟨"HalfByFive", "stalls", "(III)I"⟩ prog_1_method_20_code 4 (Option.some Jvm.ClassFile.FieldType.int) ∈ wU := wU_t3 221 rfl rfl
theorem w3_222 : Cond.methodLinkNest "HalfByFive" 200 ⟨"HalfByFive$TwoStalls", "weigh", "(LHalfByFive$Market;LHalfByFive$Day;II)V"⟩ "HalfByFive" ∈ wN := wN_t3 222 rfl rfl
theorem w3_224 : Cond.instanceMethod ⟨"HalfByFive$TwoStalls", "weigh", "(LHalfByFive$Market;LHalfByFive$Day;II)V"⟩ ∈ wU := wU_t3 224 rfl rfl
theorem w3_225 : Cond.code ⟨"HalfByFive$TwoStalls", "weigh", "(LHalfByFive$Market;LHalfByFive$Day;II)V"⟩ prog_10_method_2_code 7 (Option.none : Option Jvm.ClassFile.FieldType) ∈ wU := wU_t3 225 rfl rfl
theorem w3_226 : Cond.methodLink "HalfByFive$TwoStalls" 31 ⟨"java/util/Arrays", "fill", "([II)V"⟩ ∈ wU := wU_t3 226 rfl rfl
theorem w3_227 : Cond.methodLinkNest "HalfByFive$TwoStalls" 37 ⟨"HalfByFive$Market", "setPricesFrom", "(II)V"⟩ "HalfByFive" ∈ wN := wN_t3 227 rfl rfl
theorem w3_228 : Cond.methodLinkNest "HalfByFive$TwoStalls" 43 ⟨"HalfByFive$Market", "setTheirPricesFrom", "(II)V"⟩ "HalfByFive" ∈ wN := wN_t3 228 rfl rfl
theorem w3_230 : Cond.instanceMethod ⟨"HalfByFive$Market", "setTheirPricesFrom", "(II)V"⟩ ∈ wU := wU_t3 230 rfl rfl
theorem w3_231 : Cond.code ⟨"HalfByFive$Market", "setTheirPricesFrom", "(II)V"⟩ prog_5_method_9_code 4 (Option.none : Option Jvm.ClassFile.FieldType) ∈ wU := wU_t3 231 rfl rfl
theorem w3_232 : Cond.methodLinkNest "HalfByFive$TwoStalls" 46 ⟨"HalfByFive$Day", "run", "(LHalfByFive$Market;)V"⟩ "HalfByFive" ∈ wN := wN_t3 232 rfl rfl
theorem w3_233 : Cond.methodLinkNest "HalfByFive$TwoStalls" 52 ⟨"HalfByFive", "pairOf", "(II)I"⟩ "HalfByFive" ∈ wN := wN_t3 233 rfl rfl
theorem w3_234 : Cond.methodLink "HalfByFive$TwoStalls" 62 ⟨"java/lang/Math", "max", "(II)I"⟩ ∈ wU := wU_t3 234 rfl rfl
theorem w3_235 : Cond.methodLinkNest "HalfByFive" 204 ⟨"HalfByFive$TwoStalls", "findRests", "()V"⟩ "HalfByFive" ∈ wN := wN_t3 235 rfl rfl
theorem w3_237 : Cond.instanceMethod ⟨"HalfByFive$TwoStalls", "findRests", "()V"⟩ ∈ wU := wU_t3 237 rfl rfl
theorem w3_238 : Cond.code ⟨"HalfByFive$TwoStalls", "findRests", "()V"⟩ prog_10_method_3_code 4 (Option.none : Option Jvm.ClassFile.FieldType) ∈ wU := wU_t3 238 rfl rfl
theorem w3_239 : Cond.methodLink "HalfByFiveLaw" 94 ⟨"HalfByFive", "mean", "(I)I"⟩ ∈ wU := wU_t3 239 rfl rfl
theorem w4_0 : Cond.instanceMethod ⟨"HalfByFive", "mean", "(I)I"⟩ ∈ wU := wU_t4 0 rfl rfl
theorem w4_1 : Cond.selects "HalfByFive" ⟨"HalfByFive", "mean", "(I)I"⟩ ⟨"HalfByFive", "mean", "(I)I"⟩ ∈ wU := wU_t4 1 rfl rfl
theorem w4_2 : Cond.code ⟨"HalfByFive", "mean", "(I)I"⟩ prog_1_method_21_code 8 (Option.some Jvm.ClassFile.FieldType.int) ∈ wU := wU_t4 2 rfl rfl
theorem w4_3 : Cond.methodLink "HalfByFive" 213 ⟨"java/lang/Integer", "bitCount", "(I)I"⟩ ∈ wU := wU_t4 3 rfl rfl
theorem w4_4 : Cond.static ⟨"java/lang/Integer", "bitCount", "(I)I"⟩ ∈ wU := wU_t4 4 rfl rfl
theorem w4_5 : Cond.code ⟨"java/lang/Integer", "bitCount", "(I)I"⟩ prog_14_method_49_code 1 (Option.some Jvm.ClassFile.FieldType.int) ∈ wU := wU_t4 5 rfl rfl
theorem w4_6 : Cond.constant "java/lang/Integer" 265 1431655765 ∈ wU := wU_t4 6 rfl rfl
theorem w4_7 : Cond.constant "java/lang/Integer" 266 858993459 ∈ wU := wU_t4 7 rfl rfl
theorem w4_8 : Cond.constant "java/lang/Integer" 267 252645135 ∈ wU := wU_t4 8 rfl rfl
theorem w4_9 : Cond.methodLink "HalfByFive" 218 ⟨"HalfByFive", "power", "(II)J"⟩ ∈ wU := wU_t4 9 rfl rfl
theorem w4_10 : Cond.static ⟨"HalfByFive", "power", "(II)J"⟩ ∈ wU := wU_t4 10 rfl rfl
theorem w4_11 : Cond.code ⟨"HalfByFive", "power", "(II)J"⟩ prog_1_method_41_code 5 (Option.some Jvm.ClassFile.FieldType.long) ∈ wU := wU_t4 11 rfl rfl
theorem w4_12 : Cond.methodLink "HalfByFive" 222 ⟨"HalfByFive", "setFraction", "(JJ)V"⟩ ∈ wU := wU_t4 12 rfl rfl
theorem w4_14 : Cond.instanceMethod ⟨"HalfByFive", "setFraction", "(JJ)V"⟩ ∈ wU := wU_t4 14 rfl rfl
theorem w4_15 : Cond.code ⟨"HalfByFive", "setFraction", "(JJ)V"⟩ prog_1_method_36_code 7 (Option.none : Option Jvm.ClassFile.FieldType) ∈ wU := wU_t4 15 rfl rfl
theorem w4_16 : Cond.methodLink "HalfByFive" 266 ⟨"HalfByFive", "commonDivisor", "(JJ)J"⟩ ∈ wU := wU_t4 16 rfl rfl
theorem w4_17 : Cond.static ⟨"HalfByFive", "commonDivisor", "(JJ)J"⟩ ∈ wU := wU_t4 17 rfl rfl
theorem w4_18 : Cond.code ⟨"HalfByFive", "commonDivisor", "(JJ)J"⟩ prog_1_method_42_code 7 (Option.some Jvm.ClassFile.FieldType.long) ∈ wU := wU_t4 18 rfl rfl
theorem w4_19 : Cond.methodLink "HalfByFiveLaw" 98 ⟨"HalfByFive", "shout", "(I)I"⟩ ∈ wU := wU_t4 19 rfl rfl
theorem w4_20 : Cond.instanceMethod ⟨"HalfByFive", "shout", "(I)I"⟩ ∈ wU := wU_t4 20 rfl rfl
theorem w4_21 : Cond.selects "HalfByFive" ⟨"HalfByFive", "shout", "(I)I"⟩ ⟨"HalfByFive", "shout", "(I)I"⟩ ∈ wU := wU_t4 21 rfl rfl
theorem w4_22 : Cond.code ⟨"HalfByFive", "shout", "(I)I"⟩ prog_1_method_22_code 3 (Option.some Jvm.ClassFile.FieldType.int) ∈ wU := wU_t4 22 rfl rfl
theorem w4_23 : Cond.methodLinkNest "HalfByFive" 226 ⟨"HalfByFive$Day", "payMore", "(II)V"⟩ "HalfByFive" ∈ wN := wN_t4 23 rfl rfl
theorem w4_25 : Cond.instanceMethod ⟨"HalfByFive$Day", "payMore", "(II)V"⟩ ∈ wU := wU_t4 25 rfl rfl
theorem w4_26 : Cond.code ⟨"HalfByFive$Day", "payMore", "(II)V"⟩ prog_4_method_7_code 4 (Option.none : Option Jvm.ClassFile.FieldType) ∈ wU := wU_t4 26 rfl rfl
theorem w4_27 : Cond.methodLink "HalfByFiveLaw" 102 ⟨"HalfByFive", "sold", "(II)I"⟩ ∈ wU := wU_t4 27 rfl rfl
theorem w4_28 : Cond.instanceMethod ⟨"HalfByFive", "sold", "(II)I"⟩ ∈ wU := wU_t4 28 rfl rfl
theorem w4_29 : Cond.selects "HalfByFive" ⟨"HalfByFive", "sold", "(II)I"⟩ ⟨"HalfByFive", "sold", "(II)I"⟩ ∈ wU := wU_t4 29 rfl rfl
theorem w4_30 : Cond.code ⟨"HalfByFive", "sold", "(II)I"⟩ prog_1_method_23_code 3 (Option.some Jvm.ClassFile.FieldType.int) ∈ wU := wU_t4 30 rfl rfl
theorem w4_31 : Cond.methodLinkNest "HalfByFive" 232 ⟨"HalfByFive$Market", "addSold", "(II)V"⟩ "HalfByFive" ∈ wN := wN_t4 31 rfl rfl
theorem w4_33 : Cond.instanceMethod ⟨"HalfByFive$Market", "addSold", "(II)V"⟩ ∈ wU := wU_t4 33 rfl rfl
theorem w4_34 : Cond.code ⟨"HalfByFive$Market", "addSold", "(II)V"⟩ prog_5_method_11_code 3 (Option.none : Option Jvm.ClassFile.FieldType) ∈ wU := wU_t4 34 rfl rfl
theorem w4_35 : Cond.methodLink "HalfByFiveLaw" 106 ⟨"HalfByFive", "forget", "()I"⟩ ∈ wU := wU_t4 35 rfl rfl
theorem w4_36 : Cond.instanceMethod ⟨"HalfByFive", "forget", "()I"⟩ ∈ wU := wU_t4 36 rfl rfl
theorem w4_37 : Cond.selects "HalfByFive" ⟨"HalfByFive", "forget", "()I"⟩ ⟨"HalfByFive", "forget", "()I"⟩ ∈ wU := wU_t4 37 rfl rfl
theorem w4_38 : Cond.code ⟨"HalfByFive", "forget", "()I"⟩ prog_1_method_24_code 2 (Option.some Jvm.ClassFile.FieldType.int) ∈ wU := wU_t4 38 rfl rfl
theorem w4_39 : Cond.methodLink "HalfByFiveLaw" 110 ⟨"HalfByFive", "may", "(I)I"⟩ ∈ wU := wU_t4 39 rfl rfl
theorem w4_40 : Cond.instanceMethod ⟨"HalfByFive", "may", "(I)I"⟩ ∈ wU := wU_t4 40 rfl rfl
theorem w4_41 : Cond.selects "HalfByFive" ⟨"HalfByFive", "may", "(I)I"⟩ ⟨"HalfByFive", "may", "(I)I"⟩ ∈ wU := wU_t4 41 rfl rfl
theorem w4_42 : Cond.code ⟨"HalfByFive", "may", "(I)I"⟩ prog_1_method_25_code 4 (Option.some Jvm.ClassFile.FieldType.int) ∈ wU := wU_t4 42 rfl rfl
theorem w4_43 : Cond.methodLinkNest "HalfByFive" 235 ⟨"HalfByFive$Day", "agreesWithSold", "(LHalfByFive$Market;)Z"⟩ "HalfByFive" ∈ wN := wN_t4 43 rfl rfl
theorem w4_45 : Cond.instanceMethod ⟨"HalfByFive$Day", "agreesWithSold", "(LHalfByFive$Market;)Z"⟩ ∈ wU := wU_t4 45 rfl rfl
theorem w4_46 : Cond.code ⟨"HalfByFive$Day", "agreesWithSold", "(LHalfByFive$Market;)Z"⟩ prog_4_method_12_code 3 (Option.some Jvm.ClassFile.FieldType.boolean) ∈ wU := wU_t4 46 rfl rfl
theorem w4_47 : Cond.methodLink "HalfByFive$Day" 161 ⟨"HalfByFive$Day", "goneIn", "(I)I"⟩ ∈ wU := wU_t4 47 rfl rfl
theorem w4_48 : Cond.methodLink "HalfByFiveLaw" 114 ⟨"HalfByFive", "drawn", "(III)I"⟩ ∈ wU := wU_t4 48 rfl rfl
theorem w4_49 : Cond.instanceMethod ⟨"HalfByFive", "drawn", "(III)I"⟩ ∈ wU := wU_t4 49 rfl rfl
theorem w4_50 : Cond.selects "HalfByFive" ⟨"HalfByFive", "drawn", "(III)I"⟩ ⟨"HalfByFive", "drawn", "(III)I"⟩ ∈ wU := wU_t4 50 rfl rfl
theorem w4_51 : Cond.code ⟨"HalfByFive", "drawn", "(III)I"⟩ prog_1_method_26_code 10 (Option.some Jvm.ClassFile.FieldType.int) ∈ wU := wU_t4 51 rfl rfl
theorem w4_52 : Cond.constant "HalfByFive" 239 999999 ∈ wU := wU_t4 52 rfl rfl
theorem w4_53 : Cond.constantLong "HalfByFive" 240 1103515245 ∈ wU := wU_t4 53 rfl rfl
theorem w4_54 : Cond.constantLong "HalfByFive" 242 12345 ∈ wU := wU_t4 54 rfl rfl
theorem w4_55 : Cond.constantLong "HalfByFive" 244 2147483648 ∈ wU := wU_t4 55 rfl rfl
theorem w4_56 : Cond.constantLong "HalfByFive" 246 65536 ∈ wU := wU_t4 56 rfl rfl
theorem w4_57 : Cond.constantLong "HalfByFive" 248 100 ∈ wU := wU_t4 57 rfl rfl
theorem w4_58 : Cond.methodLink "HalfByFiveLaw" 118 ⟨"HalfByFive", "part", "(I)J"⟩ ∈ wU := wU_t4 58 rfl rfl
theorem w4_59 : Cond.instanceMethod ⟨"HalfByFive", "part", "(I)J"⟩ ∈ wU := wU_t4 59 rfl rfl
theorem w4_60 : Cond.selects "HalfByFive" ⟨"HalfByFive", "part", "(I)J"⟩ ⟨"HalfByFive", "part", "(I)J"⟩ ∈ wU := wU_t4 60 rfl rfl
theorem w4_61 : Cond.code ⟨"HalfByFive", "part", "(I)J"⟩ prog_1_method_27_code 2 (Option.some Jvm.ClassFile.FieldType.long) ∈ wU := wU_t4 61 rfl rfl
theorem w4_62 : Cond.methodLink "HalfByFiveLaw" 123 ⟨"HalfByFive", "image", "(I)I"⟩ ∈ wU := wU_t4 62 rfl rfl
theorem w4_63 : Cond.instanceMethod ⟨"HalfByFive", "image", "(I)I"⟩ ∈ wU := wU_t4 63 rfl rfl
theorem w4_64 : Cond.selects "HalfByFive" ⟨"HalfByFive", "image", "(I)I"⟩ ⟨"HalfByFive", "image", "(I)I"⟩ ∈ wU := wU_t4 64 rfl rfl
theorem w4_65 : Cond.code ⟨"HalfByFive", "image", "(I)I"⟩ prog_1_method_28_code 2 (Option.some Jvm.ClassFile.FieldType.int) ∈ wU := wU_t4 65 rfl rfl
theorem w4_66 : Cond.methodLink "HalfByFiveLaw" 127 ⟨"HalfByFive", "from", "(I)I"⟩ ∈ wU := wU_t4 66 rfl rfl
theorem w4_67 : Cond.instanceMethod ⟨"HalfByFive", "from", "(I)I"⟩ ∈ wU := wU_t4 67 rfl rfl
theorem w4_68 : Cond.selects "HalfByFive" ⟨"HalfByFive", "from", "(I)I"⟩ ⟨"HalfByFive", "from", "(I)I"⟩ ∈ wU := wU_t4 68 rfl rfl
theorem w4_69 : Cond.code ⟨"HalfByFive", "from", "(I)I"⟩ prog_1_method_29_code 2 (Option.some Jvm.ClassFile.FieldType.int) ∈ wU := wU_t4 69 rfl rfl
theorem w4_70 : Cond.methodLink "HalfByFiveLaw" 131 ⟨"HalfByFive", "status", "(I)I"⟩ ∈ wU := wU_t4 70 rfl rfl
theorem w4_71 : Cond.instanceMethod ⟨"HalfByFive", "status", "(I)I"⟩ ∈ wU := wU_t4 71 rfl rfl
theorem w4_72 : Cond.selects "HalfByFive" ⟨"HalfByFive", "status", "(I)I"⟩ ⟨"HalfByFive", "status", "(I)I"⟩ ∈ wU := wU_t4 72 rfl rfl
theorem w4_73 : Cond.code ⟨"HalfByFive", "status", "(I)I"⟩ prog_1_method_30_code 2 (Option.some Jvm.ClassFile.FieldType.int) ∈ wU := wU_t4 73 rfl rfl
theorem w4_74 : Cond.methodLink "HalfByFiveLaw" 135 ⟨"HalfByFive", "count", "(I)I"⟩ ∈ wU := wU_t4 74 rfl rfl
theorem w4_75 : Cond.instanceMethod ⟨"HalfByFive", "count", "(I)I"⟩ ∈ wU := wU_t4 75 rfl rfl
theorem w4_76 : Cond.selects "HalfByFive" ⟨"HalfByFive", "count", "(I)I"⟩ ⟨"HalfByFive", "count", "(I)I"⟩ ∈ wU := wU_t4 76 rfl rfl
theorem w4_77 : Cond.code ⟨"HalfByFive", "count", "(I)I"⟩ prog_1_method_31_code 2 (Option.some Jvm.ClassFile.FieldType.int) ∈ wU := wU_t4 77 rfl rfl
theorem w4_78 : Cond.methodLink "HalfByFive" 250 ⟨"HalfByFive", "howMany", "(I)I"⟩ ∈ wU := wU_t4 78 rfl rfl
theorem w4_80 : Cond.instanceMethod ⟨"HalfByFive", "howMany", "(I)I"⟩ ∈ wU := wU_t4 80 rfl rfl
theorem w4_81 : Cond.code ⟨"HalfByFive", "howMany", "(I)I"⟩ prog_1_method_33_code 2 (Option.some Jvm.ClassFile.FieldType.int) ∈ wU := wU_t4 81 rfl rfl
theorem w4_82 : Cond.methodLink "HalfByFiveLaw" 139 ⟨"HalfByFive", "digest", "()J"⟩ ∈ wU := wU_t4 82 rfl rfl
theorem w4_83 : Cond.instanceMethod ⟨"HalfByFive", "digest", "()J"⟩ ∈ wU := wU_t4 83 rfl rfl
theorem w4_84 : Cond.selects "HalfByFive" ⟨"HalfByFive", "digest", "()J"⟩ ⟨"HalfByFive", "digest", "()J"⟩ ∈ wU := wU_t4 84 rfl rfl
theorem w4_85 : Cond.code ⟨"HalfByFive", "digest", "()J"⟩ prog_1_method_32_code 4 (Option.some Jvm.ClassFile.FieldType.long) ∈ wU := wU_t4 85 rfl rfl
theorem w4_86 : Cond.constantLong "HalfByFive" 253 967 ∈ wU := wU_t4 86 rfl rfl
theorem w4_87 : Cond.constantLong "HalfByFive" 255 31 ∈ wU := wU_t4 87 rfl rfl
theorem w4_88 : Cond.classLink "HalfByFiveLaw" 10 "HalfByFiveModel" ∈ wU := wU_t4 88 rfl rfl
theorem w4_89 : Cond.instantiable "HalfByFiveModel" 24 ∈ wU := wU_t4 89 rfl rfl
theorem w4_90 : Cond.methodLink "HalfByFiveLaw" 12 ⟨"HalfByFiveModel", "<init>", "()V"⟩ ∈ wU := wU_t4 90 rfl rfl
theorem w4_91 : Cond.instanceMethod ⟨"HalfByFiveModel", "<init>", "()V"⟩ ∈ wU := wU_t4 91 rfl rfl
theorem w4_92 : Cond.code ⟨"HalfByFiveModel", "<init>", "()V"⟩ prog_13_method_1_code 1 (Option.none : Option Jvm.ClassFile.FieldType) ∈ wU := wU_t4 92 rfl rfl
theorem w4_93 : Cond.methodLink "HalfByFiveModel" 1 ⟨"java/lang/Object", "<init>", "()V"⟩ ∈ wU := wU_t4 93 rfl rfl
theorem w4_94 : Cond.methodLink "HalfByFiveModel" 45 ⟨"HalfByFiveModel", "begins", "(III)V"⟩ ∈ wU := wU_t4 94 rfl rfl
theorem w4_96 : Cond.instanceMethod ⟨"HalfByFiveModel", "begins", "(III)V"⟩ ∈ wU := wU_t4 96 rfl rfl
theorem w4_97 : Cond.code ⟨"HalfByFiveModel", "begins", "(III)V"⟩ prog_13_method_10_code 5 (Option.none : Option Jvm.ClassFile.FieldType) ∈ wU := wU_t4 97 rfl rfl
theorem w4_98 : Cond.fieldLink "HalfByFiveModel" 7 "HalfByFiveModel" "w" "[I" ∈ wU := wU_t4 98 rfl rfl
theorem w4_99 : Cond.fieldLink "HalfByFiveModel" 13 "HalfByFiveModel" "isKept" "[Z" ∈ wU := wU_t4 99 rfl rfl
theorem w4_100 : Cond.fieldLink "HalfByFiveModel" 17 "HalfByFiveModel" "text" "[I" ∈ wU := wU_t4 100 rfl rfl
theorem w4_101 : Cond.fieldLink "HalfByFiveModel" 90 "HalfByFiveModel" "texted" "I" ∈ wU := wU_t4 101 rfl rfl
theorem w4_102 : Cond.fieldLink "HalfByFiveModel" 20 "HalfByFiveModel" "refused" "[I" ∈ wU := wU_t4 102 rfl rfl
theorem w4_103 : Cond.fieldLink "HalfByFiveModel" 223 "HalfByFiveModel" "above" "J" ∈ wU := wU_t4 103 rfl rfl
theorem w4_104 : Cond.fieldLink "HalfByFiveModel" 23 "HalfByFiveModel" "below" "J" ∈ wU := wU_t4 104 rfl rfl
theorem w4_105 : Cond.fieldLink "HalfByFiveModel" 94 "HalfByFiveModel" "at" "I" ∈ wU := wU_t4 105 rfl rfl
theorem w4_106 : Cond.fieldLink "HalfByFiveModel" 101 "HalfByFiveModel" "start" "I" ∈ wU := wU_t4 106 rfl rfl
theorem w4_107 : Cond.fieldLink "HalfByFiveModel" 108 "HalfByFiveModel" "isWord" "Z" ∈ wU := wU_t4 107 rfl rfl
theorem w4_108 : Cond.fieldLink "HalfByFiveModel" 116 "HalfByFiveModel" "isFigures" "Z" ∈ wU := wU_t4 108 rfl rfl
theorem w4_109 : Cond.fieldLink "HalfByFiveModel" 126 "HalfByFiveModel" "value" "I" ∈ wU := wU_t4 109 rfl rfl
theorem w4_110 : Cond.fieldLink "HalfByFiveModel" 180 "HalfByFiveModel" "comers" "I" ∈ wU := wU_t4 110 rfl rfl
theorem w4_111 : Cond.fieldLink "HalfByFiveModel" 162 "HalfByFiveModel" "shouted" "I" ∈ wU := wU_t4 111 rfl rfl
theorem w4_112 : Cond.fieldLink "HalfByFiveModel" 27 "HalfByFiveModel" "gets" "[I" ∈ wU := wU_t4 112 rfl rfl
theorem w4_113 : Cond.fieldLink "HalfByFiveModel" 30 "HalfByFiveModel" "isServed" "[Z" ∈ wU := wU_t4 113 rfl rfl
theorem w4_114 : Cond.fieldLink "HalfByFiveModel" 33 "HalfByFiveModel" "goes" "[I" ∈ wU := wU_t4 114 rfl rfl
theorem w4_115 : Cond.fieldLink "HalfByFiveModel" 177 "HalfByFiveModel" "takings" "I" ∈ wU := wU_t4 115 rfl rfl
theorem w4_116 : Cond.fieldLink "HalfByFiveModel" 168 "HalfByFiveModel" "theirTakings" "I" ∈ wU := wU_t4 116 rfl rfl
theorem w4_117 : Cond.fieldLink "HalfByFiveModel" 174 "HalfByFiveModel" "left" "I" ∈ wU := wU_t4 117 rfl rfl
theorem w4_118 : Cond.fieldLink "HalfByFiveModel" 36 "HalfByFiveModel" "aside" "[I" ∈ wU := wU_t4 118 rfl rfl
theorem w4_119 : Cond.fieldLink "HalfByFiveModel" 39 "HalfByFiveModel" "own" "[I" ∈ wU := wU_t4 119 rfl rfl
theorem w4_120 : Cond.fieldLink "HalfByFiveModel" 42 "HalfByFiveModel" "other" "[I" ∈ wU := wU_t4 120 rfl rfl
theorem w4_121 : Cond.fieldLink "HalfByFiveModel" 255 "HalfByFiveModel" "h" "J" ∈ wU := wU_t4 121 rfl rfl
theorem w4_122 : Cond.laysFinal "HalfByFiveModel" "HalfByFiveModel" "w" "[I" ∈ wU := wU_t4 122 rfl rfl
theorem w4_124 : Cond.laysFinal "HalfByFiveModel" "HalfByFiveModel" "isKept" "[Z" ∈ wU := wU_t4 124 rfl rfl
theorem w4_126 : Cond.laysFinal "HalfByFiveModel" "HalfByFiveModel" "text" "[I" ∈ wU := wU_t4 126 rfl rfl
theorem w4_128 : Cond.lays "HalfByFiveModel" "HalfByFiveModel" "texted" "I" ∈ wU := wU_t4 128 rfl rfl
theorem w4_130 : Cond.laysFinal "HalfByFiveModel" "HalfByFiveModel" "refused" "[I" ∈ wU := wU_t4 130 rfl rfl
theorem w4_132 : Cond.lays "HalfByFiveModel" "HalfByFiveModel" "above" "J" ∈ wU := wU_t4 132 rfl rfl
theorem w4_134 : Cond.lays "HalfByFiveModel" "HalfByFiveModel" "below" "J" ∈ wU := wU_t4 134 rfl rfl
theorem w4_136 : Cond.lays "HalfByFiveModel" "HalfByFiveModel" "at" "I" ∈ wU := wU_t4 136 rfl rfl
theorem w4_138 : Cond.lays "HalfByFiveModel" "HalfByFiveModel" "start" "I" ∈ wU := wU_t4 138 rfl rfl
theorem w4_140 : Cond.lays "HalfByFiveModel" "HalfByFiveModel" "isWord" "Z" ∈ wU := wU_t4 140 rfl rfl
theorem w4_142 : Cond.lays "HalfByFiveModel" "HalfByFiveModel" "isFigures" "Z" ∈ wU := wU_t4 142 rfl rfl
theorem w4_144 : Cond.lays "HalfByFiveModel" "HalfByFiveModel" "value" "I" ∈ wU := wU_t4 144 rfl rfl
theorem w4_146 : Cond.lays "HalfByFiveModel" "HalfByFiveModel" "comers" "I" ∈ wU := wU_t4 146 rfl rfl
theorem w4_148 : Cond.lays "HalfByFiveModel" "HalfByFiveModel" "shouted" "I" ∈ wU := wU_t4 148 rfl rfl
theorem w4_150 : Cond.laysFinal "HalfByFiveModel" "HalfByFiveModel" "gets" "[I" ∈ wU := wU_t4 150 rfl rfl
theorem w4_152 : Cond.laysFinal "HalfByFiveModel" "HalfByFiveModel" "isServed" "[Z" ∈ wU := wU_t4 152 rfl rfl
theorem w4_154 : Cond.laysFinal "HalfByFiveModel" "HalfByFiveModel" "goes" "[I" ∈ wU := wU_t4 154 rfl rfl
theorem w4_156 : Cond.lays "HalfByFiveModel" "HalfByFiveModel" "takings" "I" ∈ wU := wU_t4 156 rfl rfl
theorem w4_158 : Cond.lays "HalfByFiveModel" "HalfByFiveModel" "theirTakings" "I" ∈ wU := wU_t4 158 rfl rfl
theorem w4_160 : Cond.lays "HalfByFiveModel" "HalfByFiveModel" "left" "I" ∈ wU := wU_t4 160 rfl rfl
theorem w4_162 : Cond.laysFinal "HalfByFiveModel" "HalfByFiveModel" "aside" "[I" ∈ wU := wU_t4 162 rfl rfl
theorem w4_164 : Cond.laysFinal "HalfByFiveModel" "HalfByFiveModel" "own" "[I" ∈ wU := wU_t4 164 rfl rfl
theorem w4_166 : Cond.laysFinal "HalfByFiveModel" "HalfByFiveModel" "other" "[I" ∈ wU := wU_t4 166 rfl rfl
theorem w4_168 : Cond.lays "HalfByFiveModel" "HalfByFiveModel" "h" "J" ∈ wU := wU_t4 168 rfl rfl
theorem w4_170 : Cond.superclass "HalfByFiveModel" "java/lang/Object" ∈ wU := wU_t4 170 rfl rfl
theorem w4_171 : Cond.methodLink "HalfByFiveLaw" 17 ⟨"HalfByFiveModel", "market", "(II)I"⟩ ∈ wU := wU_t4 171 rfl rfl
theorem w4_172 : Cond.instanceMethod ⟨"HalfByFiveModel", "market", "(II)I"⟩ ∈ wU := wU_t4 172 rfl rfl
theorem w4_173 : Cond.selects "HalfByFiveModel" ⟨"HalfByFiveModel", "market", "(II)I"⟩ ⟨"HalfByFiveModel", "market", "(II)I"⟩ ∈ wU := wU_t4 173 rfl rfl
theorem w4_174 : Cond.code ⟨"HalfByFiveModel", "market", "(II)I"⟩ prog_13_method_17_code 4 (Option.some Jvm.ClassFile.FieldType.int) ∈ wU := wU_t4 174 rfl rfl
theorem w4_175 : Cond.methodLink "HalfByFiveModel" 57 ⟨"HalfByFiveModel", "isPrice", "(I)Z"⟩ ∈ wU := wU_t4 175 rfl rfl
theorem w4_176 : Cond.static ⟨"HalfByFiveModel", "isPrice", "(I)Z"⟩ ∈ wU := wU_t4 176 rfl rfl
theorem w4_177 : Cond.code ⟨"HalfByFiveModel", "isPrice", "(I)Z"⟩ prog_13_method_12_code 1 (Option.some Jvm.ClassFile.FieldType.boolean) ∈ wU := wU_t4 177 rfl rfl
theorem w4_178 : Cond.constantLong "HalfByFiveModel" 55 99 ∈ wU := wU_t4 178 rfl rfl
theorem w4_179 : Cond.methodLink "HalfByFiveModel" 51 ⟨"HalfByFiveModel", "in", "(JJJ)Z"⟩ ∈ wU := wU_t4 179 rfl rfl
theorem w4_180 : Cond.static ⟨"HalfByFiveModel", "in", "(JJJ)Z"⟩ ∈ wU := wU_t4 180 rfl rfl
theorem w4_181 : Cond.code ⟨"HalfByFiveModel", "in", "(JJJ)Z"⟩ prog_13_method_3_code 6 (Option.some Jvm.ClassFile.FieldType.boolean) ∈ wU := wU_t4 181 rfl rfl
theorem w4_182 : Cond.constantLong "HalfByFiveModel" 49 9 ∈ wU := wU_t4 182 rfl rfl
theorem w4_183 : Cond.methodLink "HalfByFiveModel" 61 ⟨"HalfByFiveModel", "bad", "()I"⟩ ∈ wU := wU_t4 183 rfl rfl
theorem w4_185 : Cond.instanceMethod ⟨"HalfByFiveModel", "bad", "()I"⟩ ∈ wU := wU_t4 185 rfl rfl
theorem w4_186 : Cond.code ⟨"HalfByFiveModel", "bad", "()I"⟩ prog_13_method_5_code 1 (Option.some Jvm.ClassFile.FieldType.int) ∈ wU := wU_t4 186 rfl rfl
theorem w4_187 : Cond.methodLink "HalfByFiveLaw" 22 ⟨"HalfByFiveModel", "bring", "(I)I"⟩ ∈ wU := wU_t4 187 rfl rfl
theorem w4_188 : Cond.instanceMethod ⟨"HalfByFiveModel", "bring", "(I)I"⟩ ∈ wU := wU_t4 188 rfl rfl
theorem w4_189 : Cond.selects "HalfByFiveModel" ⟨"HalfByFiveModel", "bring", "(I)I"⟩ ⟨"HalfByFiveModel", "bring", "(I)I"⟩ ∈ wU := wU_t4 189 rfl rfl
theorem w4_190 : Cond.code ⟨"HalfByFiveModel", "bring", "(I)I"⟩ prog_13_method_18_code 2 (Option.some Jvm.ClassFile.FieldType.int) ∈ wU := wU_t4 190 rfl rfl
theorem w4_191 : Cond.methodLink "HalfByFiveModel" 65 ⟨"HalfByFiveModel", "becomes", "(II)I"⟩ ∈ wU := wU_t4 191 rfl rfl
theorem w4_193 : Cond.instanceMethod ⟨"HalfByFiveModel", "becomes", "(II)I"⟩ ∈ wU := wU_t4 193 rfl rfl
theorem w4_194 : Cond.code ⟨"HalfByFiveModel", "becomes", "(II)I"⟩ prog_13_method_16_code 4 (Option.some Jvm.ClassFile.FieldType.int) ∈ wU := wU_t4 194 rfl rfl
theorem w4_195 : Cond.methodLink "HalfByFiveLaw" 26 ⟨"HalfByFiveModel", "price", "(II)I"⟩ ∈ wU := wU_t4 195 rfl rfl
theorem w4_196 : Cond.instanceMethod ⟨"HalfByFiveModel", "price", "(II)I"⟩ ∈ wU := wU_t4 196 rfl rfl
theorem w4_197 : Cond.selects "HalfByFiveModel" ⟨"HalfByFiveModel", "price", "(II)I"⟩ ⟨"HalfByFiveModel", "price", "(II)I"⟩ ∈ wU := wU_t4 197 rfl rfl
theorem w4_198 : Cond.code ⟨"HalfByFiveModel", "price", "(II)I"⟩ prog_13_method_19_code 4 (Option.some Jvm.ClassFile.FieldType.int) ∈ wU := wU_t4 198 rfl rfl
theorem w4_199 : Cond.methodLink "HalfByFiveModel" 69 ⟨"HalfByFiveModel", "isHour", "(I)Z"⟩ ∈ wU := wU_t4 199 rfl rfl
theorem w4_200 : Cond.static ⟨"HalfByFiveModel", "isHour", "(I)Z"⟩ ∈ wU := wU_t4 200 rfl rfl
theorem w4_201 : Cond.code ⟨"HalfByFiveModel", "isHour", "(I)Z"⟩ prog_13_method_11_code 1 (Option.some Jvm.ClassFile.FieldType.boolean) ∈ wU := wU_t4 201 rfl rfl
theorem w4_202 : Cond.methodLink "HalfByFiveModel" 72 ⟨"HalfByFiveModel", "pricesFrom", "(III)V"⟩ ∈ wU := wU_t4 202 rfl rfl
theorem w4_204 : Cond.instanceMethod ⟨"HalfByFiveModel", "pricesFrom", "(III)V"⟩ ∈ wU := wU_t4 204 rfl rfl
theorem w4_205 : Cond.code ⟨"HalfByFiveModel", "pricesFrom", "(III)V"⟩ prog_13_method_13_code 5 (Option.none : Option Jvm.ClassFile.FieldType) ∈ wU := wU_t4 205 rfl rfl
theorem w4_206 : Cond.methodLink "HalfByFiveLaw" 30 ⟨"HalfByFiveModel", "theirs", "(II)I"⟩ ∈ wU := wU_t4 206 rfl rfl
theorem w4_207 : Cond.instanceMethod ⟨"HalfByFiveModel", "theirs", "(II)I"⟩ ∈ wU := wU_t4 207 rfl rfl
theorem w4_208 : Cond.selects "HalfByFiveModel" ⟨"HalfByFiveModel", "theirs", "(II)I"⟩ ⟨"HalfByFiveModel", "theirs", "(II)I"⟩ ∈ wU := wU_t4 208 rfl rfl
theorem w4_209 : Cond.code ⟨"HalfByFiveModel", "theirs", "(II)I"⟩ prog_13_method_20_code 3 (Option.some Jvm.ClassFile.FieldType.int) ∈ wU := wU_t4 209 rfl rfl
theorem w4_210 : Cond.methodLink "HalfByFiveLaw" 34 ⟨"HalfByFiveModel", "rain", "(I)I"⟩ ∈ wU := wU_t4 210 rfl rfl
theorem w4_211 : Cond.instanceMethod ⟨"HalfByFiveModel", "rain", "(I)I"⟩ ∈ wU := wU_t4 211 rfl rfl
theorem w4_212 : Cond.selects "HalfByFiveModel" ⟨"HalfByFiveModel", "rain", "(I)I"⟩ ⟨"HalfByFiveModel", "rain", "(I)I"⟩ ∈ wU := wU_t4 212 rfl rfl
theorem w4_213 : Cond.code ⟨"HalfByFiveModel", "rain", "(I)I"⟩ prog_13_method_21_code 2 (Option.some Jvm.ClassFile.FieldType.int) ∈ wU := wU_t4 213 rfl rfl
theorem w4_214 : Cond.constantLong "HalfByFiveModel" 75 1023 ∈ wU := wU_t4 214 rfl rfl
theorem w4_215 : Cond.methodLink "HalfByFiveLaw" 39 ⟨"HalfByFiveModel", "buyer", "(IIII)I"⟩ ∈ wU := wU_t4 215 rfl rfl
theorem w4_216 : Cond.instanceMethod ⟨"HalfByFiveModel", "buyer", "(IIII)I"⟩ ∈ wU := wU_t4 216 rfl rfl
theorem w4_217 : Cond.selects "HalfByFiveModel" ⟨"HalfByFiveModel", "buyer", "(IIII)I"⟩ ⟨"HalfByFiveModel", "buyer", "(IIII)I"⟩ ∈ wU := wU_t4 217 rfl rfl
theorem w4_218 : Cond.code ⟨"HalfByFiveModel", "buyer", "(IIII)I"⟩ prog_13_method_22_code 5 (Option.some Jvm.ClassFile.FieldType.int) ∈ wU := wU_t4 218 rfl rfl
theorem w4_219 : Cond.constantLong "HalfByFiveModel" 77 5 ∈ wU := wU_t4 219 rfl rfl
theorem w4_220 : Cond.constantLong "HalfByFiveModel" 79 3 ∈ wU := wU_t4 220 rfl rfl
theorem w4_221 : Cond.methodLink "HalfByFiveModel" 81 ⟨"HalfByFiveModel", "full", "()I"⟩ ∈ wU := wU_t4 221 rfl rfl
theorem w4_223 : Cond.instanceMethod ⟨"HalfByFiveModel", "full", "()I"⟩ ∈ wU := wU_t4 223 rfl rfl
theorem w4_224 : Cond.code ⟨"HalfByFiveModel", "full", "()I"⟩ prog_13_method_8_code 1 (Option.some Jvm.ClassFile.FieldType.int) ∈ wU := wU_t4 224 rfl rfl
theorem w4_225 : Cond.methodLink "HalfByFiveModel" 84 ⟨"HalfByFiveModel", "adds", "(IIIII)I"⟩ ∈ wU := wU_t4 225 rfl rfl
theorem w4_227 : Cond.instanceMethod ⟨"HalfByFiveModel", "adds", "(IIIII)I"⟩ ∈ wU := wU_t4 227 rfl rfl
theorem w4_228 : Cond.code ⟨"HalfByFiveModel", "adds", "(IIIII)I"⟩ prog_13_method_14_code 7 (Option.some Jvm.ClassFile.FieldType.int) ∈ wU := wU_t4 228 rfl rfl
theorem w4_229 : Cond.methodLink "HalfByFiveLaw" 43 ⟨"HalfByFiveModel", "type", "(I)I"⟩ ∈ wU := wU_t4 229 rfl rfl
theorem w4_230 : Cond.instanceMethod ⟨"HalfByFiveModel", "type", "(I)I"⟩ ∈ wU := wU_t4 230 rfl rfl
theorem w4_231 : Cond.selects "HalfByFiveModel" ⟨"HalfByFiveModel", "type", "(I)I"⟩ ⟨"HalfByFiveModel", "type", "(I)I"⟩ ∈ wU := wU_t4 231 rfl rfl
theorem w4_232 : Cond.code ⟨"HalfByFiveModel", "type", "(I)I"⟩ prog_13_method_23_code 2 (Option.some Jvm.ClassFile.FieldType.int) ∈ wU := wU_t4 232 rfl rfl
theorem w4_233 : Cond.constantLong "HalfByFiveModel" 88 127 ∈ wU := wU_t4 233 rfl rfl
theorem w4_234 : Cond.methodLink "HalfByFiveLaw" 48 ⟨"HalfByFiveModel", "clear", "()I"⟩ ∈ wU := wU_t4 234 rfl rfl
theorem w4_235 : Cond.instanceMethod ⟨"HalfByFiveModel", "clear", "()I"⟩ ∈ wU := wU_t4 235 rfl rfl
theorem w4_236 : Cond.selects "HalfByFiveModel" ⟨"HalfByFiveModel", "clear", "()I"⟩ ⟨"HalfByFiveModel", "clear", "()I"⟩ ∈ wU := wU_t4 236 rfl rfl
theorem w4_237 : Cond.code ⟨"HalfByFiveModel", "clear", "()I"⟩ prog_13_method_24_code 2 (Option.some Jvm.ClassFile.FieldType.int) ∈ wU := wU_t4 237 rfl rfl
theorem w4_238 : Cond.methodLink "HalfByFiveLaw" 52 ⟨"HalfByFiveModel", "read", "()I"⟩ ∈ wU := wU_t4 238 rfl rfl
theorem w4_239 : Cond.instanceMethod ⟨"HalfByFiveModel", "read", "()I"⟩ ∈ wU := wU_t4 239 rfl rfl
theorem w5_0 : Cond.selects "HalfByFiveModel" ⟨"HalfByFiveModel", "read", "()I"⟩ ⟨"HalfByFiveModel", "read", "()I"⟩ ∈ wU := wU_t5 0 rfl rfl
theorem w5_1 : Cond.code ⟨"HalfByFiveModel", "read", "()I"⟩ prog_13_method_34_code 2 (Option.some Jvm.ClassFile.FieldType.int) ∈ wU := wU_t5 1 rfl rfl
theorem w5_2 : Cond.methodLink "HalfByFiveModel" 123 ⟨"HalfByFiveModel", "token", "()V"⟩ ∈ wU := wU_t5 2 rfl rfl
theorem w5_4 : Cond.instanceMethod ⟨"HalfByFiveModel", "token", "()V"⟩ ∈ wU := wU_t5 4 rfl rfl
theorem w5_5 : Cond.code ⟨"HalfByFiveModel", "token", "()V"⟩ prog_13_method_26_code 1 (Option.none : Option Jvm.ClassFile.FieldType) ∈ wU := wU_t5 5 rfl rfl
theorem w5_6 : Cond.methodLink "HalfByFiveModel" 97 ⟨"HalfByFiveModel", "byteAt", "(I)I"⟩ ∈ wU := wU_t5 6 rfl rfl
theorem w5_8 : Cond.instanceMethod ⟨"HalfByFiveModel", "byteAt", "(I)I"⟩ ∈ wU := wU_t5 8 rfl rfl
theorem w5_9 : Cond.code ⟨"HalfByFiveModel", "byteAt", "(I)I"⟩ prog_13_method_25_code 2 (Option.some Jvm.ClassFile.FieldType.int) ∈ wU := wU_t5 9 rfl rfl
theorem w5_10 : Cond.constantLong "HalfByFiveModel" 104 97 ∈ wU := wU_t5 10 rfl rfl
theorem w5_11 : Cond.constantLong "HalfByFiveModel" 106 122 ∈ wU := wU_t5 11 rfl rfl
theorem w5_12 : Cond.constantLong "HalfByFiveModel" 112 48 ∈ wU := wU_t5 12 rfl rfl
theorem w5_13 : Cond.constantLong "HalfByFiveModel" 114 57 ∈ wU := wU_t5 13 rfl rfl
theorem w5_14 : Cond.methodLink "HalfByFiveModel" 146 ⟨"HalfByFiveModel", "takesItem", "(I)Z"⟩ ∈ wU := wU_t5 14 rfl rfl
theorem w5_16 : Cond.instanceMethod ⟨"HalfByFiveModel", "takesItem", "(I)Z"⟩ ∈ wU := wU_t5 16 rfl rfl
theorem w5_17 : Cond.code ⟨"HalfByFiveModel", "takesItem", "(I)Z"⟩ prog_13_method_33_code 4 (Option.some Jvm.ClassFile.FieldType.boolean) ∈ wU := wU_t5 17 rfl rfl
theorem w5_18 : Cond.methodLink "HalfByFiveModel" 133 ⟨"HalfByFiveModel", "wordNow", "()I"⟩ ∈ wU := wU_t5 18 rfl rfl
theorem w5_20 : Cond.instanceMethod ⟨"HalfByFiveModel", "wordNow", "()I"⟩ ∈ wU := wU_t5 20 rfl rfl
theorem w5_21 : Cond.code ⟨"HalfByFiveModel", "wordNow", "()I"⟩ prog_13_method_28_code 1 (Option.some Jvm.ClassFile.FieldType.int) ∈ wU := wU_t5 21 rfl rfl
theorem w5_22 : Cond.methodLink "HalfByFiveModel" 119 ⟨"HalfByFiveModel", "isNamed", "(IIIIII)Z"⟩ ∈ wU := wU_t5 22 rfl rfl
theorem w5_24 : Cond.instanceMethod ⟨"HalfByFiveModel", "isNamed", "(IIIIII)Z"⟩ ∈ wU := wU_t5 24 rfl rfl
theorem w5_25 : Cond.code ⟨"HalfByFiveModel", "isNamed", "(IIIIII)Z"⟩ prog_13_method_27_code 9 (Option.some Jvm.ClassFile.FieldType.boolean) ∈ wU := wU_t5 25 rfl rfl
theorem w5_26 : Cond.methodLink "HalfByFiveModel" 136 ⟨"HalfByFiveModel", "takesMarket", "()Z"⟩ ∈ wU := wU_t5 26 rfl rfl
theorem w5_28 : Cond.instanceMethod ⟨"HalfByFiveModel", "takesMarket", "()Z"⟩ ∈ wU := wU_t5 28 rfl rfl
theorem w5_29 : Cond.code ⟨"HalfByFiveModel", "takesMarket", "()Z"⟩ prog_13_method_32_code 2 (Option.some Jvm.ClassFile.FieldType.boolean) ∈ wU := wU_t5 29 rfl rfl
theorem w5_30 : Cond.methodLink "HalfByFiveModel" 129 ⟨"HalfByFiveModel", "takesNumber", "(II)Z"⟩ ∈ wU := wU_t5 30 rfl rfl
theorem w5_32 : Cond.instanceMethod ⟨"HalfByFiveModel", "takesNumber", "(II)Z"⟩ ∈ wU := wU_t5 32 rfl rfl
theorem w5_33 : Cond.code ⟨"HalfByFiveModel", "takesNumber", "(II)Z"⟩ prog_13_method_29_code 4 (Option.some Jvm.ClassFile.FieldType.boolean) ∈ wU := wU_t5 33 rfl rfl
theorem w5_34 : Cond.methodLink "HalfByFiveModel" 140 ⟨"HalfByFiveModel", "takesBuyer", "()Z"⟩ ∈ wU := wU_t5 34 rfl rfl
theorem w5_36 : Cond.instanceMethod ⟨"HalfByFiveModel", "takesBuyer", "()Z"⟩ ∈ wU := wU_t5 36 rfl rfl
theorem w5_37 : Cond.code ⟨"HalfByFiveModel", "takesBuyer", "()Z"⟩ prog_13_method_31_code 4 (Option.some Jvm.ClassFile.FieldType.boolean) ∈ wU := wU_t5 37 rfl rfl
theorem w5_38 : Cond.methodLink "HalfByFiveModel" 143 ⟨"HalfByFiveModel", "takesHourAnd", "(I)Z"⟩ ∈ wU := wU_t5 38 rfl rfl
theorem w5_40 : Cond.instanceMethod ⟨"HalfByFiveModel", "takesHourAnd", "(I)Z"⟩ ∈ wU := wU_t5 40 rfl rfl
theorem w5_41 : Cond.code ⟨"HalfByFiveModel", "takesHourAnd", "(I)Z"⟩ prog_13_method_30_code 3 (Option.some Jvm.ClassFile.FieldType.boolean) ∈ wU := wU_t5 41 rfl rfl
theorem w5_42 : Cond.methodLink "HalfByFiveModel" 149 ⟨"HalfByFiveModel", "copy", "(II)V"⟩ ∈ wU := wU_t5 42 rfl rfl
theorem w5_44 : Cond.instanceMethod ⟨"HalfByFiveModel", "copy", "(II)V"⟩ ∈ wU := wU_t5 44 rfl rfl
theorem w5_45 : Cond.code ⟨"HalfByFiveModel", "copy", "(II)V"⟩ prog_13_method_9_code 4 (Option.none : Option Jvm.ClassFile.FieldType) ∈ wU := wU_t5 45 rfl rfl
theorem w5_46 : Cond.methodLink "HalfByFiveLaw" 56 ⟨"HalfByFiveModel", "day", "()I"⟩ ∈ wU := wU_t5 46 rfl rfl
theorem w5_47 : Cond.instanceMethod ⟨"HalfByFiveModel", "day", "()I"⟩ ∈ wU := wU_t5 47 rfl rfl
theorem w5_48 : Cond.selects "HalfByFiveModel" ⟨"HalfByFiveModel", "day", "()I"⟩ ⟨"HalfByFiveModel", "day", "()I"⟩ ∈ wU := wU_t5 48 rfl rfl
theorem w5_49 : Cond.code ⟨"HalfByFiveModel", "day", "()I"⟩ prog_13_method_46_code 1 (Option.some Jvm.ClassFile.FieldType.int) ∈ wU := wU_t5 49 rfl rfl
theorem w5_50 : Cond.methodLink "HalfByFiveModel" 196 ⟨"HalfByFiveModel", "minds", "()V"⟩ ∈ wU := wU_t5 50 rfl rfl
theorem w5_52 : Cond.instanceMethod ⟨"HalfByFiveModel", "minds", "()V"⟩ ∈ wU := wU_t5 52 rfl rfl
theorem w5_53 : Cond.code ⟨"HalfByFiveModel", "minds", "()V"⟩ prog_13_method_45_code 3 (Option.none : Option Jvm.ClassFile.FieldType) ∈ wU := wU_t5 53 rfl rfl
theorem w5_54 : Cond.methodLink "HalfByFiveModel" 199 ⟨"HalfByFiveModel", "triesAll", "()V"⟩ ∈ wU := wU_t5 54 rfl rfl
theorem w5_56 : Cond.instanceMethod ⟨"HalfByFiveModel", "triesAll", "()V"⟩ ∈ wU := wU_t5 56 rfl rfl
theorem w5_57 : Cond.code ⟨"HalfByFiveModel", "triesAll", "()V"⟩ prog_13_method_42_code 1 (Option.none : Option Jvm.ClassFile.FieldType) ∈ wU := wU_t5 57 rfl rfl
theorem w5_58 : Cond.methodLink "HalfByFiveModel" 189 ⟨"HalfByFiveModel", "tries", "(I)V"⟩ ∈ wU := wU_t5 58 rfl rfl
theorem w5_60 : Cond.instanceMethod ⟨"HalfByFiveModel", "tries", "(I)V"⟩ ∈ wU := wU_t5 60 rfl rfl
theorem w5_61 : Cond.code ⟨"HalfByFiveModel", "tries", "(I)V"⟩ prog_13_method_41_code 5 (Option.none : Option Jvm.ClassFile.FieldType) ∈ wU := wU_t5 61 rfl rfl
theorem w5_62 : Cond.methodLink "HalfByFiveModel" 183 ⟨"HalfByFiveModel", "has", "(II)Z"⟩ ∈ wU := wU_t5 62 rfl rfl
theorem w5_63 : Cond.static ⟨"HalfByFiveModel", "has", "(II)Z"⟩ ∈ wU := wU_t5 63 rfl rfl
theorem w5_64 : Cond.code ⟨"HalfByFiveModel", "has", "(II)Z"⟩ prog_13_method_4_code 2 (Option.some Jvm.ClassFile.FieldType.boolean) ∈ wU := wU_t5 64 rfl rfl
theorem w5_65 : Cond.methodLink "HalfByFiveModel" 156 ⟨"HalfByFiveModel", "hourOf", "(I)I"⟩ ∈ wU := wU_t5 65 rfl rfl
theorem w5_67 : Cond.instanceMethod ⟨"HalfByFiveModel", "hourOf", "(I)I"⟩ ∈ wU := wU_t5 67 rfl rfl
theorem w5_68 : Cond.code ⟨"HalfByFiveModel", "hourOf", "(I)I"⟩ prog_13_method_36_code 2 (Option.some Jvm.ClassFile.FieldType.int) ∈ wU := wU_t5 68 rfl rfl
theorem w5_69 : Cond.methodLink "HalfByFiveModel" 153 ⟨"HalfByFiveModel", "waitsIn", "(I)I"⟩ ∈ wU := wU_t5 69 rfl rfl
theorem w5_71 : Cond.instanceMethod ⟨"HalfByFiveModel", "waitsIn", "(I)I"⟩ ∈ wU := wU_t5 71 rfl rfl
theorem w5_72 : Cond.code ⟨"HalfByFiveModel", "waitsIn", "(I)I"⟩ prog_13_method_35_code 4 (Option.some Jvm.ClassFile.FieldType.int) ∈ wU := wU_t5 72 rfl rfl
theorem w5_73 : Cond.methodLink "HalfByFiveModel" 186 ⟨"HalfByFiveModel", "comes", "(II)V"⟩ ∈ wU := wU_t5 73 rfl rfl
theorem w5_75 : Cond.instanceMethod ⟨"HalfByFiveModel", "comes", "(II)V"⟩ ∈ wU := wU_t5 75 rfl rfl
theorem w5_76 : Cond.code ⟨"HalfByFiveModel", "comes", "(II)V"⟩ prog_13_method_40_code 7 (Option.none : Option Jvm.ClassFile.FieldType) ∈ wU := wU_t5 76 rfl rfl
theorem w5_77 : Cond.methodLink "HalfByFiveModel" 165 ⟨"HalfByFiveModel", "paysOf", "(I)I"⟩ ∈ wU := wU_t5 77 rfl rfl
theorem w5_79 : Cond.instanceMethod ⟨"HalfByFiveModel", "paysOf", "(I)I"⟩ ∈ wU := wU_t5 79 rfl rfl
theorem w5_80 : Cond.code ⟨"HalfByFiveModel", "paysOf", "(I)I"⟩ prog_13_method_38_code 4 (Option.some Jvm.ClassFile.FieldType.int) ∈ wU := wU_t5 80 rfl rfl
theorem w5_81 : Cond.methodLink "HalfByFiveModel" 159 ⟨"HalfByFiveModel", "plainPays", "(II)I"⟩ ∈ wU := wU_t5 81 rfl rfl
theorem w5_83 : Cond.instanceMethod ⟨"HalfByFiveModel", "plainPays", "(II)I"⟩ ∈ wU := wU_t5 83 rfl rfl
theorem w5_84 : Cond.code ⟨"HalfByFiveModel", "plainPays", "(II)I"⟩ prog_13_method_37_code 4 (Option.some Jvm.ClassFile.FieldType.int) ∈ wU := wU_t5 84 rfl rfl
theorem w5_85 : Cond.methodLink "HalfByFiveModel" 171 ⟨"HalfByFiveModel", "takesOf", "(I)I"⟩ ∈ wU := wU_t5 85 rfl rfl
theorem w5_87 : Cond.instanceMethod ⟨"HalfByFiveModel", "takesOf", "(I)I"⟩ ∈ wU := wU_t5 87 rfl rfl
theorem w5_88 : Cond.code ⟨"HalfByFiveModel", "takesOf", "(I)I"⟩ prog_13_method_39_code 3 (Option.some Jvm.ClassFile.FieldType.int) ∈ wU := wU_t5 88 rfl rfl
theorem w5_89 : Cond.methodLink "HalfByFiveModel" 202 ⟨"HalfByFiveModel", "learns", "()V"⟩ ∈ wU := wU_t5 89 rfl rfl
theorem w5_91 : Cond.instanceMethod ⟨"HalfByFiveModel", "learns", "()V"⟩ ∈ wU := wU_t5 91 rfl rfl
theorem w5_92 : Cond.code ⟨"HalfByFiveModel", "learns", "()V"⟩ prog_13_method_44_code 5 (Option.none : Option Jvm.ClassFile.FieldType) ∈ wU := wU_t5 92 rfl rfl
theorem w5_93 : Cond.methodLink "HalfByFiveModel" 193 ⟨"HalfByFiveModel", "isCheaper", "(I)Z"⟩ ∈ wU := wU_t5 93 rfl rfl
theorem w5_95 : Cond.instanceMethod ⟨"HalfByFiveModel", "isCheaper", "(I)Z"⟩ ∈ wU := wU_t5 95 rfl rfl
theorem w5_96 : Cond.code ⟨"HalfByFiveModel", "isCheaper", "(I)Z"⟩ prog_13_method_43_code 5 (Option.some Jvm.ClassFile.FieldType.boolean) ∈ wU := wU_t5 96 rfl rfl
theorem w5_97 : Cond.methodLink "HalfByFiveLaw" 60 ⟨"HalfByFiveModel", "undo", "()I"⟩ ∈ wU := wU_t5 97 rfl rfl
theorem w5_98 : Cond.instanceMethod ⟨"HalfByFiveModel", "undo", "()I"⟩ ∈ wU := wU_t5 98 rfl rfl
theorem w5_99 : Cond.selects "HalfByFiveModel" ⟨"HalfByFiveModel", "undo", "()I"⟩ ⟨"HalfByFiveModel", "undo", "()I"⟩ ∈ wU := wU_t5 99 rfl rfl
theorem w5_100 : Cond.code ⟨"HalfByFiveModel", "undo", "()I"⟩ prog_13_method_47_code 3 (Option.some Jvm.ClassFile.FieldType.int) ∈ wU := wU_t5 100 rfl rfl
theorem w5_101 : Cond.methodLink "HalfByFiveModel" 205 ⟨"HalfByFiveModel", "no", "()I"⟩ ∈ wU := wU_t5 101 rfl rfl
theorem w5_103 : Cond.instanceMethod ⟨"HalfByFiveModel", "no", "()I"⟩ ∈ wU := wU_t5 103 rfl rfl
theorem w5_104 : Cond.code ⟨"HalfByFiveModel", "no", "()I"⟩ prog_13_method_7_code 1 (Option.some Jvm.ClassFile.FieldType.int) ∈ wU := wU_t5 104 rfl rfl
theorem w5_105 : Cond.methodLink "HalfByFiveLaw" 64 ⟨"HalfByFiveModel", "of", "(II)I"⟩ ∈ wU := wU_t5 105 rfl rfl
theorem w5_106 : Cond.instanceMethod ⟨"HalfByFiveModel", "of", "(II)I"⟩ ∈ wU := wU_t5 106 rfl rfl
theorem w5_107 : Cond.selects "HalfByFiveModel" ⟨"HalfByFiveModel", "of", "(II)I"⟩ ⟨"HalfByFiveModel", "of", "(II)I"⟩ ∈ wU := wU_t5 107 rfl rfl
theorem w5_108 : Cond.code ⟨"HalfByFiveModel", "of", "(II)I"⟩ prog_13_method_48_code 3 (Option.some Jvm.ClassFile.FieldType.int) ∈ wU := wU_t5 108 rfl rfl
theorem w5_109 : Cond.methodLink "HalfByFiveLaw" 68 ⟨"HalfByFiveModel", "about", "(II)I"⟩ ∈ wU := wU_t5 109 rfl rfl
theorem w5_110 : Cond.instanceMethod ⟨"HalfByFiveModel", "about", "(II)I"⟩ ∈ wU := wU_t5 110 rfl rfl
theorem w5_111 : Cond.selects "HalfByFiveModel" ⟨"HalfByFiveModel", "about", "(II)I"⟩ ⟨"HalfByFiveModel", "about", "(II)I"⟩ ∈ wU := wU_t5 111 rfl rfl
theorem w5_112 : Cond.code ⟨"HalfByFiveModel", "about", "(II)I"⟩ prog_13_method_49_code 3 (Option.some Jvm.ClassFile.FieldType.int) ∈ wU := wU_t5 112 rfl rfl
theorem w5_113 : Cond.methodLink "HalfByFiveModel" 208 ⟨"HalfByFiveModel", "isBuyer", "(I)Z"⟩ ∈ wU := wU_t5 113 rfl rfl
theorem w5_115 : Cond.instanceMethod ⟨"HalfByFiveModel", "isBuyer", "(I)Z"⟩ ∈ wU := wU_t5 115 rfl rfl
theorem w5_116 : Cond.code ⟨"HalfByFiveModel", "isBuyer", "(I)Z"⟩ prog_13_method_15_code 2 (Option.some Jvm.ClassFile.FieldType.boolean) ∈ wU := wU_t5 116 rfl rfl
theorem w5_117 : Cond.constantLong "HalfByFiveModel" 211 4 ∈ wU := wU_t5 117 rfl rfl
theorem w5_118 : Cond.methodLink "HalfByFiveLaw" 72 ⟨"HalfByFiveModel", "takes", "(I)I"⟩ ∈ wU := wU_t5 118 rfl rfl
theorem w5_119 : Cond.instanceMethod ⟨"HalfByFiveModel", "takes", "(I)I"⟩ ∈ wU := wU_t5 119 rfl rfl
theorem w5_120 : Cond.selects "HalfByFiveModel" ⟨"HalfByFiveModel", "takes", "(I)I"⟩ ⟨"HalfByFiveModel", "takes", "(I)I"⟩ ∈ wU := wU_t5 120 rfl rfl
theorem w5_121 : Cond.code ⟨"HalfByFiveModel", "takes", "(I)I"⟩ prog_13_method_50_code 2 (Option.some Jvm.ClassFile.FieldType.int) ∈ wU := wU_t5 121 rfl rfl
theorem w5_122 : Cond.methodLink "HalfByFiveLaw" 76 ⟨"HalfByFiveModel", "to", "(II)I"⟩ ∈ wU := wU_t5 122 rfl rfl
theorem w5_123 : Cond.instanceMethod ⟨"HalfByFiveModel", "to", "(II)I"⟩ ∈ wU := wU_t5 123 rfl rfl
theorem w5_124 : Cond.selects "HalfByFiveModel" ⟨"HalfByFiveModel", "to", "(II)I"⟩ ⟨"HalfByFiveModel", "to", "(II)I"⟩ ∈ wU := wU_t5 124 rfl rfl
theorem w5_125 : Cond.code ⟨"HalfByFiveModel", "to", "(II)I"⟩ prog_13_method_51_code 3 (Option.some Jvm.ClassFile.FieldType.int) ∈ wU := wU_t5 125 rfl rfl
theorem w5_126 : Cond.methodLink "HalfByFiveLaw" 80 ⟨"HalfByFiveModel", "best", "(IIII)I"⟩ ∈ wU := wU_t5 126 rfl rfl
theorem w5_127 : Cond.instanceMethod ⟨"HalfByFiveModel", "best", "(IIII)I"⟩ ∈ wU := wU_t5 127 rfl rfl
theorem w5_128 : Cond.selects "HalfByFiveModel" ⟨"HalfByFiveModel", "best", "(IIII)I"⟩ ⟨"HalfByFiveModel", "best", "(IIII)I"⟩ ∈ wU := wU_t5 128 rfl rfl
theorem w5_129 : Cond.code ⟨"HalfByFiveModel", "best", "(IIII)I"⟩ prog_13_method_54_code 10 (Option.some Jvm.ClassFile.FieldType.int) ∈ wU := wU_t5 129 rfl rfl
theorem w5_130 : Cond.methodLink "HalfByFiveModel" 213 ⟨"HalfByFiveModel", "lays", "()V"⟩ ∈ wU := wU_t5 130 rfl rfl
theorem w5_132 : Cond.instanceMethod ⟨"HalfByFiveModel", "lays", "()V"⟩ ∈ wU := wU_t5 132 rfl rfl
theorem w5_133 : Cond.code ⟨"HalfByFiveModel", "lays", "()V"⟩ prog_13_method_52_code 2 (Option.none : Option Jvm.ClassFile.FieldType) ∈ wU := wU_t5 133 rfl rfl
theorem w5_134 : Cond.methodLink "HalfByFiveModel" 216 ⟨"HalfByFiveModel", "putsBack", "()V"⟩ ∈ wU := wU_t5 134 rfl rfl
theorem w5_136 : Cond.instanceMethod ⟨"HalfByFiveModel", "putsBack", "()V"⟩ ∈ wU := wU_t5 136 rfl rfl
theorem w5_137 : Cond.code ⟨"HalfByFiveModel", "putsBack", "()V"⟩ prog_13_method_53_code 2 (Option.none : Option Jvm.ClassFile.FieldType) ∈ wU := wU_t5 137 rfl rfl
theorem w5_138 : Cond.methodLink "HalfByFiveLaw" 84 ⟨"HalfByFiveModel", "brings", "(I)I"⟩ ∈ wU := wU_t5 138 rfl rfl
theorem w5_139 : Cond.instanceMethod ⟨"HalfByFiveModel", "brings", "(I)I"⟩ ∈ wU := wU_t5 139 rfl rfl
theorem w5_140 : Cond.selects "HalfByFiveModel" ⟨"HalfByFiveModel", "brings", "(I)I"⟩ ⟨"HalfByFiveModel", "brings", "(I)I"⟩ ∈ wU := wU_t5 140 rfl rfl
theorem w5_141 : Cond.code ⟨"HalfByFiveModel", "brings", "(I)I"⟩ prog_13_method_55_code 7 (Option.some Jvm.ClassFile.FieldType.int) ∈ wU := wU_t5 141 rfl rfl
theorem w5_142 : Cond.constant "HalfByFiveModel" 219 (-100000000) ∈ wU := wU_t5 142 rfl rfl
theorem w5_143 : Cond.methodLink "HalfByFiveLaw" 88 ⟨"HalfByFiveModel", "come", "(I)I"⟩ ∈ wU := wU_t5 143 rfl rfl
theorem w5_144 : Cond.instanceMethod ⟨"HalfByFiveModel", "come", "(I)I"⟩ ∈ wU := wU_t5 144 rfl rfl
theorem w5_145 : Cond.selects "HalfByFiveModel" ⟨"HalfByFiveModel", "come", "(I)I"⟩ ⟨"HalfByFiveModel", "come", "(I)I"⟩ ∈ wU := wU_t5 145 rfl rfl
theorem w5_146 : Cond.code ⟨"HalfByFiveModel", "come", "(I)I"⟩ prog_13_method_56_code 8 (Option.some Jvm.ClassFile.FieldType.int) ∈ wU := wU_t5 146 rfl rfl
theorem w5_147 : Cond.methodLink "HalfByFiveLaw" 93 ⟨"HalfByFiveModel", "stalls", "(III)I"⟩ ∈ wU := wU_t5 147 rfl rfl
theorem w5_148 : Cond.instanceMethod ⟨"HalfByFiveModel", "stalls", "(III)I"⟩ ∈ wU := wU_t5 148 rfl rfl
theorem w5_149 : Cond.selects "HalfByFiveModel" ⟨"HalfByFiveModel", "stalls", "(III)I"⟩ ⟨"HalfByFiveModel", "stalls", "(III)I"⟩ ∈ wU := wU_t5 149 rfl rfl
theorem w5_150 : Cond.code ⟨"HalfByFiveModel", "stalls", "(III)I"⟩ prog_13_method_57_code 9 (Option.some Jvm.ClassFile.FieldType.int) ∈ wU := wU_t5 150 rfl rfl
theorem w5_151 : Cond.methodLink "HalfByFiveModel" 220 ⟨"HalfByFiveModel", "badAs", "(I)I"⟩ ∈ wU := wU_t5 151 rfl rfl
theorem w5_153 : Cond.instanceMethod ⟨"HalfByFiveModel", "badAs", "(I)I"⟩ ∈ wU := wU_t5 153 rfl rfl
theorem w5_154 : Cond.code ⟨"HalfByFiveModel", "badAs", "(I)I"⟩ prog_13_method_6_code 2 (Option.some Jvm.ClassFile.FieldType.int) ∈ wU := wU_t5 154 rfl rfl
theorem w5_155 : Cond.methodLink "HalfByFiveLaw" 97 ⟨"HalfByFiveModel", "mean", "(I)I"⟩ ∈ wU := wU_t5 155 rfl rfl
theorem w5_156 : Cond.instanceMethod ⟨"HalfByFiveModel", "mean", "(I)I"⟩ ∈ wU := wU_t5 156 rfl rfl
theorem w5_157 : Cond.selects "HalfByFiveModel" ⟨"HalfByFiveModel", "mean", "(I)I"⟩ ⟨"HalfByFiveModel", "mean", "(I)I"⟩ ∈ wU := wU_t5 157 rfl rfl
theorem w5_158 : Cond.code ⟨"HalfByFiveModel", "mean", "(I)I"⟩ prog_13_method_59_code 10 (Option.some Jvm.ClassFile.FieldType.int) ∈ wU := wU_t5 158 rfl rfl
theorem w5_159 : Cond.constantLong "HalfByFiveModel" 226 10 ∈ wU := wU_t5 159 rfl rfl
theorem w5_160 : Cond.methodLink "HalfByFiveModel" 228 ⟨"HalfByFiveModel", "tells", "(JJ)V"⟩ ∈ wU := wU_t5 160 rfl rfl
theorem w5_162 : Cond.instanceMethod ⟨"HalfByFiveModel", "tells", "(JJ)V"⟩ ∈ wU := wU_t5 162 rfl rfl
theorem w5_163 : Cond.code ⟨"HalfByFiveModel", "tells", "(JJ)V"⟩ prog_13_method_58_code 11 (Option.none : Option Jvm.ClassFile.FieldType) ∈ wU := wU_t5 163 rfl rfl
theorem w5_164 : Cond.methodLink "HalfByFiveLaw" 101 ⟨"HalfByFiveModel", "shout", "(I)I"⟩ ∈ wU := wU_t5 164 rfl rfl
theorem w5_165 : Cond.instanceMethod ⟨"HalfByFiveModel", "shout", "(I)I"⟩ ∈ wU := wU_t5 165 rfl rfl
theorem w5_166 : Cond.selects "HalfByFiveModel" ⟨"HalfByFiveModel", "shout", "(I)I"⟩ ⟨"HalfByFiveModel", "shout", "(I)I"⟩ ∈ wU := wU_t5 166 rfl rfl
theorem w5_167 : Cond.code ⟨"HalfByFiveModel", "shout", "(I)I"⟩ prog_13_method_60_code 3 (Option.some Jvm.ClassFile.FieldType.int) ∈ wU := wU_t5 167 rfl rfl
theorem w5_168 : Cond.methodLink "HalfByFiveLaw" 105 ⟨"HalfByFiveModel", "sold", "(II)I"⟩ ∈ wU := wU_t5 168 rfl rfl
theorem w5_169 : Cond.instanceMethod ⟨"HalfByFiveModel", "sold", "(II)I"⟩ ∈ wU := wU_t5 169 rfl rfl
theorem w5_170 : Cond.selects "HalfByFiveModel" ⟨"HalfByFiveModel", "sold", "(II)I"⟩ ⟨"HalfByFiveModel", "sold", "(II)I"⟩ ∈ wU := wU_t5 170 rfl rfl
theorem w5_171 : Cond.code ⟨"HalfByFiveModel", "sold", "(II)I"⟩ prog_13_method_61_code 3 (Option.some Jvm.ClassFile.FieldType.int) ∈ wU := wU_t5 171 rfl rfl
theorem w5_172 : Cond.methodLink "HalfByFiveLaw" 109 ⟨"HalfByFiveModel", "forget", "()I"⟩ ∈ wU := wU_t5 172 rfl rfl
theorem w5_173 : Cond.instanceMethod ⟨"HalfByFiveModel", "forget", "()I"⟩ ∈ wU := wU_t5 173 rfl rfl
theorem w5_174 : Cond.selects "HalfByFiveModel" ⟨"HalfByFiveModel", "forget", "()I"⟩ ⟨"HalfByFiveModel", "forget", "()I"⟩ ∈ wU := wU_t5 174 rfl rfl
theorem w5_175 : Cond.code ⟨"HalfByFiveModel", "forget", "()I"⟩ prog_13_method_62_code 1 (Option.some Jvm.ClassFile.FieldType.int) ∈ wU := wU_t5 175 rfl rfl
theorem w5_176 : Cond.methodLink "HalfByFiveLaw" 113 ⟨"HalfByFiveModel", "may", "(I)I"⟩ ∈ wU := wU_t5 176 rfl rfl
theorem w5_177 : Cond.instanceMethod ⟨"HalfByFiveModel", "may", "(I)I"⟩ ∈ wU := wU_t5 177 rfl rfl
theorem w5_178 : Cond.selects "HalfByFiveModel" ⟨"HalfByFiveModel", "may", "(I)I"⟩ ⟨"HalfByFiveModel", "may", "(I)I"⟩ ∈ wU := wU_t5 178 rfl rfl
theorem w5_179 : Cond.code ⟨"HalfByFiveModel", "may", "(I)I"⟩ prog_13_method_63_code 7 (Option.some Jvm.ClassFile.FieldType.int) ∈ wU := wU_t5 179 rfl rfl
theorem w5_180 : Cond.methodLink "HalfByFiveLaw" 117 ⟨"HalfByFiveModel", "drawn", "(III)I"⟩ ∈ wU := wU_t5 180 rfl rfl
theorem w5_181 : Cond.instanceMethod ⟨"HalfByFiveModel", "drawn", "(III)I"⟩ ∈ wU := wU_t5 181 rfl rfl
theorem w5_182 : Cond.selects "HalfByFiveModel" ⟨"HalfByFiveModel", "drawn", "(III)I"⟩ ⟨"HalfByFiveModel", "drawn", "(III)I"⟩ ∈ wU := wU_t5 182 rfl rfl
theorem w5_183 : Cond.code ⟨"HalfByFiveModel", "drawn", "(III)I"⟩ prog_13_method_64_code 10 (Option.some Jvm.ClassFile.FieldType.int) ∈ wU := wU_t5 183 rfl rfl
theorem w5_184 : Cond.constantLong "HalfByFiveModel" 232 999999 ∈ wU := wU_t5 184 rfl rfl
theorem w5_185 : Cond.constantLong "HalfByFiveModel" 234 30 ∈ wU := wU_t5 185 rfl rfl
theorem w5_186 : Cond.constantLong "HalfByFiveModel" 236 100 ∈ wU := wU_t5 186 rfl rfl
theorem w5_187 : Cond.constantLong "HalfByFiveModel" 238 1103515245 ∈ wU := wU_t5 187 rfl rfl
theorem w5_188 : Cond.constantLong "HalfByFiveModel" 240 12345 ∈ wU := wU_t5 188 rfl rfl
theorem w5_189 : Cond.constantLong "HalfByFiveModel" 242 2147483648 ∈ wU := wU_t5 189 rfl rfl
theorem w5_190 : Cond.constantLong "HalfByFiveModel" 244 65536 ∈ wU := wU_t5 190 rfl rfl
theorem w5_191 : Cond.methodLink "HalfByFiveLaw" 122 ⟨"HalfByFiveModel", "part", "(I)J"⟩ ∈ wU := wU_t5 191 rfl rfl
theorem w5_192 : Cond.instanceMethod ⟨"HalfByFiveModel", "part", "(I)J"⟩ ∈ wU := wU_t5 192 rfl rfl
theorem w5_193 : Cond.selects "HalfByFiveModel" ⟨"HalfByFiveModel", "part", "(I)J"⟩ ⟨"HalfByFiveModel", "part", "(I)J"⟩ ∈ wU := wU_t5 193 rfl rfl
theorem w5_194 : Cond.code ⟨"HalfByFiveModel", "part", "(I)J"⟩ prog_13_method_65_code 2 (Option.some Jvm.ClassFile.FieldType.long) ∈ wU := wU_t5 194 rfl rfl
theorem w5_195 : Cond.methodLink "HalfByFiveLaw" 126 ⟨"HalfByFiveModel", "image", "(I)I"⟩ ∈ wU := wU_t5 195 rfl rfl
theorem w5_196 : Cond.instanceMethod ⟨"HalfByFiveModel", "image", "(I)I"⟩ ∈ wU := wU_t5 196 rfl rfl
theorem w5_197 : Cond.selects "HalfByFiveModel" ⟨"HalfByFiveModel", "image", "(I)I"⟩ ⟨"HalfByFiveModel", "image", "(I)I"⟩ ∈ wU := wU_t5 197 rfl rfl
theorem w5_198 : Cond.code ⟨"HalfByFiveModel", "image", "(I)I"⟩ prog_13_method_66_code 2 (Option.some Jvm.ClassFile.FieldType.int) ∈ wU := wU_t5 198 rfl rfl
theorem w5_199 : Cond.methodLink "HalfByFiveLaw" 130 ⟨"HalfByFiveModel", "from", "(I)I"⟩ ∈ wU := wU_t5 199 rfl rfl
theorem w5_200 : Cond.instanceMethod ⟨"HalfByFiveModel", "from", "(I)I"⟩ ∈ wU := wU_t5 200 rfl rfl
theorem w5_201 : Cond.selects "HalfByFiveModel" ⟨"HalfByFiveModel", "from", "(I)I"⟩ ⟨"HalfByFiveModel", "from", "(I)I"⟩ ∈ wU := wU_t5 201 rfl rfl
theorem w5_202 : Cond.code ⟨"HalfByFiveModel", "from", "(I)I"⟩ prog_13_method_67_code 2 (Option.some Jvm.ClassFile.FieldType.int) ∈ wU := wU_t5 202 rfl rfl
theorem w5_203 : Cond.methodLink "HalfByFiveLaw" 134 ⟨"HalfByFiveModel", "status", "(I)I"⟩ ∈ wU := wU_t5 203 rfl rfl
theorem w5_204 : Cond.instanceMethod ⟨"HalfByFiveModel", "status", "(I)I"⟩ ∈ wU := wU_t5 204 rfl rfl
theorem w5_205 : Cond.selects "HalfByFiveModel" ⟨"HalfByFiveModel", "status", "(I)I"⟩ ⟨"HalfByFiveModel", "status", "(I)I"⟩ ∈ wU := wU_t5 205 rfl rfl
theorem w5_206 : Cond.code ⟨"HalfByFiveModel", "status", "(I)I"⟩ prog_13_method_68_code 2 (Option.some Jvm.ClassFile.FieldType.int) ∈ wU := wU_t5 206 rfl rfl
theorem w5_207 : Cond.constantLong "HalfByFiveModel" 246 2 ∈ wU := wU_t5 207 rfl rfl
theorem w5_208 : Cond.methodLink "HalfByFiveLaw" 138 ⟨"HalfByFiveModel", "count", "(I)I"⟩ ∈ wU := wU_t5 208 rfl rfl
theorem w5_209 : Cond.instanceMethod ⟨"HalfByFiveModel", "count", "(I)I"⟩ ∈ wU := wU_t5 209 rfl rfl
theorem w5_210 : Cond.selects "HalfByFiveModel" ⟨"HalfByFiveModel", "count", "(I)I"⟩ ⟨"HalfByFiveModel", "count", "(I)I"⟩ ∈ wU := wU_t5 210 rfl rfl
theorem w5_211 : Cond.code ⟨"HalfByFiveModel", "count", "(I)I"⟩ prog_13_method_70_code 2 (Option.some Jvm.ClassFile.FieldType.int) ∈ wU := wU_t5 211 rfl rfl
theorem w5_212 : Cond.constantLong "HalfByFiveModel" 248 7 ∈ wU := wU_t5 212 rfl rfl
theorem w5_213 : Cond.methodLink "HalfByFiveModel" 250 ⟨"HalfByFiveModel", "countOf", "(I)I"⟩ ∈ wU := wU_t5 213 rfl rfl
theorem w5_215 : Cond.instanceMethod ⟨"HalfByFiveModel", "countOf", "(I)I"⟩ ∈ wU := wU_t5 215 rfl rfl
theorem w5_216 : Cond.code ⟨"HalfByFiveModel", "countOf", "(I)I"⟩ prog_13_method_69_code 2 (Option.some Jvm.ClassFile.FieldType.int) ∈ wU := wU_t5 216 rfl rfl
theorem w5_217 : Cond.methodLink "HalfByFiveLaw" 143 ⟨"HalfByFiveModel", "digest", "()J"⟩ ∈ wU := wU_t5 217 rfl rfl
theorem w5_218 : Cond.instanceMethod ⟨"HalfByFiveModel", "digest", "()J"⟩ ∈ wU := wU_t5 218 rfl rfl
theorem w5_219 : Cond.selects "HalfByFiveModel" ⟨"HalfByFiveModel", "digest", "()J"⟩ ⟨"HalfByFiveModel", "digest", "()J"⟩ ∈ wU := wU_t5 219 rfl rfl
theorem w5_220 : Cond.code ⟨"HalfByFiveModel", "digest", "()J"⟩ prog_13_method_72_code 3 (Option.some Jvm.ClassFile.FieldType.long) ∈ wU := wU_t5 220 rfl rfl
theorem w5_221 : Cond.constantLong "HalfByFiveModel" 258 967 ∈ wU := wU_t5 221 rfl rfl
theorem w5_222 : Cond.methodLink "HalfByFiveModel" 260 ⟨"HalfByFiveModel", "mix", "(J)V"⟩ ∈ wU := wU_t5 222 rfl rfl
theorem w5_224 : Cond.instanceMethod ⟨"HalfByFiveModel", "mix", "(J)V"⟩ ∈ wU := wU_t5 224 rfl rfl
theorem w5_225 : Cond.code ⟨"HalfByFiveModel", "mix", "(J)V"⟩ prog_13_method_71_code 3 (Option.none : Option Jvm.ClassFile.FieldType) ∈ wU := wU_t5 225 rfl rfl
theorem w5_226 : Cond.constantLong "HalfByFiveModel" 253 31 ∈ wU := wU_t5 226 rfl rfl
theorem w5_227 : Cond.sameMethod "HalfByFive$Waits" "HalfByFive$Waits" "buysIn" "(LHalfByFive$Market;I)I" ∈ wU := wU_t5 227 rfl rfl
theorem w5_228 : Cond.castable "HalfByFive$Waits" "HalfByFive$Plain" ∈ wN := wN_t5 228 rfl rfl
theorem w5_229 : Cond.castable "HalfByFive$Cook" "HalfByFive$Plain" ∈ wN := wN_t5 229 rfl rfl
theorem w5_230 : Cond.castable "HalfByFive$School" "HalfByFive$Plain" ∈ wN := wN_t5 230 rfl rfl
theorem w5_231 : Cond.castable "HalfByFive$Bag" "HalfByFive$Plain" ∈ wN := wN_t5 231 rfl rfl
theorem w5_232 : Cond.castable "HalfByFive$Pair" "HalfByFive$Plain" ∈ wN := wN_t5 232 rfl rfl
theorem w5_233 : Cond.fieldLink "java/lang/String" 9 "java/lang/String" "value" "[B" ∈ wU := wU_t5 233 rfl rfl
theorem w5_234 : Cond.fieldLink "java/lang/String" 15 "java/lang/String" "coder" "B" ∈ wU := wU_t5 234 rfl rfl
theorem ws1_0 : Cond.selects "HalfByFive" ⟨"HalfByFive", "refuse", "(I)I"⟩ ⟨"HalfByFive", "refuse", "(I)I"⟩ ∈ wU := wU_s (q := (⟨"HalfByFive", "refuse", "(I)I"⟩, 12)) (List.mem_append_left _ (List.mem_of_getElem? (l := lw_privs_1) (i := 0) rfl))
theorem ws1_1 : Cond.selects "HalfByFive$Market" ⟨"HalfByFive$Market", "startAnew", "(II)V"⟩ ⟨"HalfByFive$Market", "startAnew", "(II)V"⟩ ∈ wU := wU_s (q := (⟨"HalfByFive$Market", "startAnew", "(II)V"⟩, 17)) (List.mem_append_left _ (List.mem_of_getElem? (l := lw_privs_1) (i := 1) rfl))
theorem ws1_2 : Cond.selects "HalfByFive$Market" ⟨"HalfByFive$Market", "priceIn", "(I)I"⟩ ⟨"HalfByFive$Market", "priceIn", "(I)I"⟩ ∈ wU := wU_s (q := (⟨"HalfByFive$Market", "priceIn", "(I)I"⟩, 17)) (List.mem_append_left _ (List.mem_of_getElem? (l := lw_privs_1) (i := 2) rfl))
theorem ws1_3 : Cond.selects "HalfByFive$Market" ⟨"HalfByFive$Market", "setPricesFrom", "(II)V"⟩ ⟨"HalfByFive$Market", "setPricesFrom", "(II)V"⟩ ∈ wU := wU_s (q := (⟨"HalfByFive$Market", "setPricesFrom", "(II)V"⟩, 17)) (List.mem_append_left _ (List.mem_of_getElem? (l := lw_privs_1) (i := 3) rfl))
theorem ws1_4 : Cond.selects "HalfByFive$Market" ⟨"HalfByFive$Market", "theirPriceIn", "(I)I"⟩ ⟨"HalfByFive$Market", "theirPriceIn", "(I)I"⟩ ∈ wU := wU_s (q := (⟨"HalfByFive$Market", "theirPriceIn", "(I)I"⟩, 17)) (List.mem_append_left _ (List.mem_of_getElem? (l := lw_privs_1) (i := 4) rfl))
theorem ws1_5 : Cond.selects "HalfByFive$Market" ⟨"HalfByFive$Market", "setTheirPrice", "(II)V"⟩ ⟨"HalfByFive$Market", "setTheirPrice", "(II)V"⟩ ∈ wU := wU_s (q := (⟨"HalfByFive$Market", "setTheirPrice", "(II)V"⟩, 17)) (List.mem_append_left _ (List.mem_of_getElem? (l := lw_privs_1) (i := 5) rfl))
theorem ws1_6 : Cond.selects "HalfByFive$Market" ⟨"HalfByFive$Market", "addBuyer", "(IIII)V"⟩ ⟨"HalfByFive$Market", "addBuyer", "(IIII)V"⟩ ∈ wU := wU_s (q := (⟨"HalfByFive$Market", "addBuyer", "(IIII)V"⟩, 17)) (List.mem_append_left _ (List.mem_of_getElem? (l := lw_privs_1) (i := 6) rfl))
theorem ws1_7 : Cond.selects "HalfByFive$Reader" ⟨"HalfByFive$Reader", "addByte", "(I)V"⟩ ⟨"HalfByFive$Reader", "addByte", "(I)V"⟩ ∈ wU := wU_s (q := (⟨"HalfByFive$Reader", "addByte", "(I)V"⟩, 6)) (List.mem_append_left _ (List.mem_of_getElem? (l := lw_privs_1) (i := 7) rfl))
theorem ws1_8 : Cond.selects "HalfByFive$Reader" ⟨"HalfByFive$Reader", "readInto", "(LHalfByFive$Market;)I"⟩ ⟨"HalfByFive$Reader", "readInto", "(LHalfByFive$Market;)I"⟩ ∈ wU := wU_s (q := (⟨"HalfByFive$Reader", "readInto", "(LHalfByFive$Market;)I"⟩, 6)) (List.mem_append_left _ (List.mem_of_getElem? (l := lw_privs_1) (i := 8) rfl))
theorem ws1_9 : Cond.selects "HalfByFive$Reader" ⟨"HalfByFive$Reader", "step", "()V"⟩ ⟨"HalfByFive$Reader", "step", "()V"⟩ ∈ wU := wU_s (q := (⟨"HalfByFive$Reader", "step", "()V"⟩, 6)) (List.mem_append_left _ (List.mem_of_getElem? (l := lw_privs_1) (i := 9) rfl))
theorem ws1_10 : Cond.selects "HalfByFive$Reader" ⟨"HalfByFive$Reader", "byteAt", "(I)I"⟩ ⟨"HalfByFive$Reader", "byteAt", "(I)I"⟩ ∈ wU := wU_s (q := (⟨"HalfByFive$Reader", "byteAt", "(I)I"⟩, 6)) (List.mem_append_left _ (List.mem_of_getElem? (l := lw_privs_1) (i := 10) rfl))
theorem ws1_11 : Cond.selects "HalfByFive$Reader" ⟨"HalfByFive$Reader", "readsMarket", "(LHalfByFive$Market;)Z"⟩ ⟨"HalfByFive$Reader", "readsMarket", "(LHalfByFive$Market;)Z"⟩ ∈ wU := wU_s (q := (⟨"HalfByFive$Reader", "readsMarket", "(LHalfByFive$Market;)Z"⟩, 6)) (List.mem_append_left _ (List.mem_of_getElem? (l := lw_privs_1) (i := 11) rfl))
theorem ws1_12 : Cond.selects "HalfByFive$Reader" ⟨"HalfByFive$Reader", "isWord", "(Ljava/lang/String;)Z"⟩ ⟨"HalfByFive$Reader", "isWord", "(Ljava/lang/String;)Z"⟩ ∈ wU := wU_s (q := (⟨"HalfByFive$Reader", "isWord", "(Ljava/lang/String;)Z"⟩, 6)) (List.mem_append_left _ (List.mem_of_getElem? (l := lw_privs_1) (i := 12) rfl))
theorem ws1_13 : Cond.selects "HalfByFive$Reader" ⟨"HalfByFive$Reader", "readNumber", "(II)I"⟩ ⟨"HalfByFive$Reader", "readNumber", "(II)I"⟩ ∈ wU := wU_s (q := (⟨"HalfByFive$Reader", "readNumber", "(II)I"⟩, 6)) (List.mem_append_left _ (List.mem_of_getElem? (l := lw_privs_1) (i := 13) rfl))
theorem ws1_14 : Cond.selects "HalfByFive$Reader" ⟨"HalfByFive$Reader", "readsStop", "()Z"⟩ ⟨"HalfByFive$Reader", "readsStop", "()Z"⟩ ∈ wU := wU_s (q := (⟨"HalfByFive$Reader", "readsStop", "()Z"⟩, 6)) (List.mem_append_left _ (List.mem_of_getElem? (l := lw_privs_1) (i := 14) rfl))
theorem ws1_15 : Cond.selects "HalfByFive$Reader" ⟨"HalfByFive$Reader", "readsItem", "(LHalfByFive$Market;)Z"⟩ ⟨"HalfByFive$Reader", "readsItem", "(LHalfByFive$Market;)Z"⟩ ∈ wU := wU_s (q := (⟨"HalfByFive$Reader", "readsItem", "(LHalfByFive$Market;)Z"⟩, 6)) (List.mem_append_left _ (List.mem_of_getElem? (l := lw_privs_1) (i := 15) rfl))
theorem ws2_0 : Cond.selects "HalfByFive$Reader" ⟨"HalfByFive$Reader", "readsPrice", "(LHalfByFive$Market;)Z"⟩ ⟨"HalfByFive$Reader", "readsPrice", "(LHalfByFive$Market;)Z"⟩ ∈ wU := wU_s (q := (⟨"HalfByFive$Reader", "readsPrice", "(LHalfByFive$Market;)Z"⟩, 6)) (List.mem_append_right _ (List.mem_append_left _ (List.mem_of_getElem? (l := lw_privs_2) (i := 0) rfl)))
theorem ws2_1 : Cond.selects "HalfByFive$Reader" ⟨"HalfByFive$Reader", "readsTheirs", "(LHalfByFive$Market;)Z"⟩ ⟨"HalfByFive$Reader", "readsTheirs", "(LHalfByFive$Market;)Z"⟩ ∈ wU := wU_s (q := (⟨"HalfByFive$Reader", "readsTheirs", "(LHalfByFive$Market;)Z"⟩, 6)) (List.mem_append_right _ (List.mem_append_left _ (List.mem_of_getElem? (l := lw_privs_2) (i := 1) rfl)))
theorem ws2_2 : Cond.selects "HalfByFive$Reader" ⟨"HalfByFive$Reader", "readsRain", "(LHalfByFive$Market;)Z"⟩ ⟨"HalfByFive$Reader", "readsRain", "(LHalfByFive$Market;)Z"⟩ ∈ wU := wU_s (q := (⟨"HalfByFive$Reader", "readsRain", "(LHalfByFive$Market;)Z"⟩, 6)) (List.mem_append_right _ (List.mem_append_left _ (List.mem_of_getElem? (l := lw_privs_2) (i := 2) rfl)))
theorem ws2_3 : Cond.selects "HalfByFive$Reader" ⟨"HalfByFive$Reader", "readsBuyer", "(LHalfByFive$Market;)Z"⟩ ⟨"HalfByFive$Reader", "readsBuyer", "(LHalfByFive$Market;)Z"⟩ ∈ wU := wU_s (q := (⟨"HalfByFive$Reader", "readsBuyer", "(LHalfByFive$Market;)Z"⟩, 6)) (List.mem_append_right _ (List.mem_append_left _ (List.mem_of_getElem? (l := lw_privs_2) (i := 3) rfl)))
theorem ws2_4 : Cond.selects "HalfByFive$Market" ⟨"HalfByFive$Market", "becomes", "(LHalfByFive$Market;)V"⟩ ⟨"HalfByFive$Market", "becomes", "(LHalfByFive$Market;)V"⟩ ∈ wU := wU_s (q := (⟨"HalfByFive$Market", "becomes", "(LHalfByFive$Market;)V"⟩, 17)) (List.mem_append_right _ (List.mem_append_left _ (List.mem_of_getElem? (l := lw_privs_2) (i := 4) rfl)))
theorem ws2_5 : Cond.selects "HalfByFive$Market" ⟨"HalfByFive$Market", "keepPast", "()V"⟩ ⟨"HalfByFive$Market", "keepPast", "()V"⟩ ∈ wU := wU_s (q := (⟨"HalfByFive$Market", "keepPast", "()V"⟩, 17)) (List.mem_append_right _ (List.mem_append_left _ (List.mem_of_getElem? (l := lw_privs_2) (i := 5) rfl)))
theorem ws2_6 : Cond.selects "HalfByFive$Day" ⟨"HalfByFive$Day", "run", "(LHalfByFive$Market;)V"⟩ ⟨"HalfByFive$Day", "run", "(LHalfByFive$Market;)V"⟩ ∈ wU := wU_s (q := (⟨"HalfByFive$Day", "run", "(LHalfByFive$Market;)V"⟩, 12)) (List.mem_append_right _ (List.mem_append_left _ (List.mem_of_getElem? (l := lw_privs_2) (i := 6) rfl)))
theorem ws2_7 : Cond.selects "HalfByFive$Day" ⟨"HalfByFive$Day", "plan", "(LHalfByFive$Market;)V"⟩ ⟨"HalfByFive$Day", "plan", "(LHalfByFive$Market;)V"⟩ ∈ wU := wU_s (q := (⟨"HalfByFive$Day", "plan", "(LHalfByFive$Market;)V"⟩, 12)) (List.mem_append_right _ (List.mem_append_left _ (List.mem_of_getElem? (l := lw_privs_2) (i := 7) rfl)))
theorem ws2_8 : Cond.selects "HalfByFive$Day" ⟨"HalfByFive$Day", "wayOf", "(I)LHalfByFive$Plain;"⟩ ⟨"HalfByFive$Day", "wayOf", "(I)LHalfByFive$Plain;"⟩ ∈ wU := wU_s (q := (⟨"HalfByFive$Day", "wayOf", "(I)LHalfByFive$Plain;"⟩, 12)) (List.mem_append_right _ (List.mem_append_left _ (List.mem_of_getElem? (l := lw_privs_2) (i := 8) rfl)))
theorem ws2_9 : Cond.selects "HalfByFive$Market" ⟨"HalfByFive$Market", "rainsIn", "(I)Z"⟩ ⟨"HalfByFive$Market", "rainsIn", "(I)Z"⟩ ∈ wU := wU_s (q := (⟨"HalfByFive$Market", "rainsIn", "(I)Z"⟩, 17)) (List.mem_append_right _ (List.mem_append_left _ (List.mem_of_getElem? (l := lw_privs_2) (i := 9) rfl)))
theorem ws2_10 : Cond.selects "HalfByFive$Day" ⟨"HalfByFive$Day", "lineUp", "(I)V"⟩ ⟨"HalfByFive$Day", "lineUp", "(I)V"⟩ ∈ wU := wU_s (q := (⟨"HalfByFive$Day", "lineUp", "(I)V"⟩, 12)) (List.mem_append_right _ (List.mem_append_left _ (List.mem_of_getElem? (l := lw_privs_2) (i := 10) rfl)))
theorem ws2_11 : Cond.selects "HalfByFive$Day" ⟨"HalfByFive$Day", "hourOf", "(I)I"⟩ ⟨"HalfByFive$Day", "hourOf", "(I)I"⟩ ∈ wU := wU_s (q := (⟨"HalfByFive$Day", "hourOf", "(I)I"⟩, 12)) (List.mem_append_right _ (List.mem_append_left _ (List.mem_of_getElem? (l := lw_privs_2) (i := 11) rfl)))
theorem ws2_12 : Cond.selects "HalfByFive$Day" ⟨"HalfByFive$Day", "walk", "(LHalfByFive$Market;I)V"⟩ ⟨"HalfByFive$Day", "walk", "(LHalfByFive$Market;I)V"⟩ ∈ wU := wU_s (q := (⟨"HalfByFive$Day", "walk", "(LHalfByFive$Market;I)V"⟩, 12)) (List.mem_append_right _ (List.mem_append_left _ (List.mem_of_getElem? (l := lw_privs_2) (i := 12) rfl)))
theorem ws2_13 : Cond.selects "HalfByFive$Day" ⟨"HalfByFive$Day", "meet", "(LHalfByFive$Market;I)V"⟩ ⟨"HalfByFive$Day", "meet", "(LHalfByFive$Market;I)V"⟩ ∈ wU := wU_s (q := (⟨"HalfByFive$Day", "meet", "(LHalfByFive$Market;I)V"⟩, 12)) (List.mem_append_right _ (List.mem_append_left _ (List.mem_of_getElem? (l := lw_privs_2) (i := 13) rfl)))
theorem ws2_14 : Cond.selects "HalfByFive$Day" ⟨"HalfByFive$Day", "sell", "(II)V"⟩ ⟨"HalfByFive$Day", "sell", "(II)V"⟩ ∈ wU := wU_s (q := (⟨"HalfByFive$Day", "sell", "(II)V"⟩, 12)) (List.mem_append_right _ (List.mem_append_left _ (List.mem_of_getElem? (l := lw_privs_2) (i := 14) rfl)))
theorem ws2_15 : Cond.selects "HalfByFive$Day" ⟨"HalfByFive$Day", "teach", "(LHalfByFive$Market;)V"⟩ ⟨"HalfByFive$Day", "teach", "(LHalfByFive$Market;)V"⟩ ∈ wU := wU_s (q := (⟨"HalfByFive$Day", "teach", "(LHalfByFive$Market;)V"⟩, 12)) (List.mem_append_right _ (List.mem_append_left _ (List.mem_of_getElem? (l := lw_privs_2) (i := 15) rfl)))
theorem ws3_0 : Cond.selects "HalfByFive$Day" ⟨"HalfByFive$Day", "mayLearnToWait", "(I)Z"⟩ ⟨"HalfByFive$Day", "mayLearnToWait", "(I)Z"⟩ ∈ wU := wU_s (q := (⟨"HalfByFive$Day", "mayLearnToWait", "(I)Z"⟩, 12)) (List.mem_append_right _ (List.mem_append_right _ (List.mem_append_left _ (List.mem_of_getElem? (l := lw_privs_3) (i := 0) rfl))))
theorem ws3_1 : Cond.selects "HalfByFive$Day" ⟨"HalfByFive$Day", "paidTooMuch", "(LHalfByFive$Market;I)Z"⟩ ⟨"HalfByFive$Day", "paidTooMuch", "(LHalfByFive$Market;I)Z"⟩ ∈ wU := wU_s (q := (⟨"HalfByFive$Day", "paidTooMuch", "(LHalfByFive$Market;I)Z"⟩, 12)) (List.mem_append_right _ (List.mem_append_right _ (List.mem_append_left _ (List.mem_of_getElem? (l := lw_privs_3) (i := 1) rfl))))
theorem ws3_2 : Cond.selects "HalfByFive$Market" ⟨"HalfByFive$Market", "fallsBelowBehind", "(II)Z"⟩ ⟨"HalfByFive$Market", "fallsBelowBehind", "(II)Z"⟩ ∈ wU := wU_s (q := (⟨"HalfByFive$Market", "fallsBelowBehind", "(II)Z"⟩, 17)) (List.mem_append_right _ (List.mem_append_right _ (List.mem_append_left _ (List.mem_of_getElem? (l := lw_privs_3) (i := 2) rfl))))
theorem ws3_3 : Cond.selects "HalfByFive$Market" ⟨"HalfByFive$Market", "goBack", "()V"⟩ ⟨"HalfByFive$Market", "goBack", "()V"⟩ ∈ wU := wU_s (q := (⟨"HalfByFive$Market", "goBack", "()V"⟩, 17)) (List.mem_append_right _ (List.mem_append_right _ (List.mem_append_left _ (List.mem_of_getElem? (l := lw_privs_3) (i := 3) rfl))))
theorem ws3_4 : Cond.selects "HalfByFive$Day" ⟨"HalfByFive$Day", "goneIn", "(I)I"⟩ ⟨"HalfByFive$Day", "goneIn", "(I)I"⟩ ∈ wU := wU_s (q := (⟨"HalfByFive$Day", "goneIn", "(I)I"⟩, 12)) (List.mem_append_right _ (List.mem_append_right _ (List.mem_append_left _ (List.mem_of_getElem? (l := lw_privs_3) (i := 4) rfl))))
theorem ws3_5 : Cond.selects "HalfByFive" ⟨"HalfByFive", "isBuyer", "(I)Z"⟩ ⟨"HalfByFive", "isBuyer", "(I)Z"⟩ ∈ wU := wU_s (q := (⟨"HalfByFive", "isBuyer", "(I)Z"⟩, 12)) (List.mem_append_right _ (List.mem_append_right _ (List.mem_append_left _ (List.mem_of_getElem? (l := lw_privs_3) (i := 5) rfl))))
theorem ws3_6 : Cond.selects "HalfByFive$TwoStalls" ⟨"HalfByFive$TwoStalls", "weigh", "(LHalfByFive$Market;LHalfByFive$Day;II)V"⟩ ⟨"HalfByFive$TwoStalls", "weigh", "(LHalfByFive$Market;LHalfByFive$Day;II)V"⟩ ∈ wU := wU_s (q := (⟨"HalfByFive$TwoStalls", "weigh", "(LHalfByFive$Market;LHalfByFive$Day;II)V"⟩, 6)) (List.mem_append_right _ (List.mem_append_right _ (List.mem_append_left _ (List.mem_of_getElem? (l := lw_privs_3) (i := 6) rfl))))
theorem ws3_7 : Cond.selects "HalfByFive$Market" ⟨"HalfByFive$Market", "setTheirPricesFrom", "(II)V"⟩ ⟨"HalfByFive$Market", "setTheirPricesFrom", "(II)V"⟩ ∈ wU := wU_s (q := (⟨"HalfByFive$Market", "setTheirPricesFrom", "(II)V"⟩, 17)) (List.mem_append_right _ (List.mem_append_right _ (List.mem_append_left _ (List.mem_of_getElem? (l := lw_privs_3) (i := 7) rfl))))
theorem ws3_8 : Cond.selects "HalfByFive$TwoStalls" ⟨"HalfByFive$TwoStalls", "findRests", "()V"⟩ ⟨"HalfByFive$TwoStalls", "findRests", "()V"⟩ ∈ wU := wU_s (q := (⟨"HalfByFive$TwoStalls", "findRests", "()V"⟩, 6)) (List.mem_append_right _ (List.mem_append_right _ (List.mem_append_left _ (List.mem_of_getElem? (l := lw_privs_3) (i := 8) rfl))))
theorem ws3_9 : Cond.selects "HalfByFive" ⟨"HalfByFive", "setFraction", "(JJ)V"⟩ ⟨"HalfByFive", "setFraction", "(JJ)V"⟩ ∈ wU := wU_s (q := (⟨"HalfByFive", "setFraction", "(JJ)V"⟩, 12)) (List.mem_append_right _ (List.mem_append_right _ (List.mem_append_left _ (List.mem_of_getElem? (l := lw_privs_3) (i := 9) rfl))))
theorem ws3_10 : Cond.selects "HalfByFive$Day" ⟨"HalfByFive$Day", "payMore", "(II)V"⟩ ⟨"HalfByFive$Day", "payMore", "(II)V"⟩ ∈ wU := wU_s (q := (⟨"HalfByFive$Day", "payMore", "(II)V"⟩, 12)) (List.mem_append_right _ (List.mem_append_right _ (List.mem_append_left _ (List.mem_of_getElem? (l := lw_privs_3) (i := 10) rfl))))
theorem ws3_11 : Cond.selects "HalfByFive$Market" ⟨"HalfByFive$Market", "addSold", "(II)V"⟩ ⟨"HalfByFive$Market", "addSold", "(II)V"⟩ ∈ wU := wU_s (q := (⟨"HalfByFive$Market", "addSold", "(II)V"⟩, 17)) (List.mem_append_right _ (List.mem_append_right _ (List.mem_append_left _ (List.mem_of_getElem? (l := lw_privs_3) (i := 11) rfl))))
theorem ws3_12 : Cond.selects "HalfByFive$Day" ⟨"HalfByFive$Day", "agreesWithSold", "(LHalfByFive$Market;)Z"⟩ ⟨"HalfByFive$Day", "agreesWithSold", "(LHalfByFive$Market;)Z"⟩ ∈ wU := wU_s (q := (⟨"HalfByFive$Day", "agreesWithSold", "(LHalfByFive$Market;)Z"⟩, 12)) (List.mem_append_right _ (List.mem_append_right _ (List.mem_append_left _ (List.mem_of_getElem? (l := lw_privs_3) (i := 12) rfl))))
theorem ws3_13 : Cond.selects "HalfByFive" ⟨"HalfByFive", "howMany", "(I)I"⟩ ⟨"HalfByFive", "howMany", "(I)I"⟩ ∈ wU := wU_s (q := (⟨"HalfByFive", "howMany", "(I)I"⟩, 12)) (List.mem_append_right _ (List.mem_append_right _ (List.mem_append_left _ (List.mem_of_getElem? (l := lw_privs_3) (i := 13) rfl))))
theorem ws3_14 : Cond.selects "HalfByFiveModel" ⟨"HalfByFiveModel", "begins", "(III)V"⟩ ⟨"HalfByFiveModel", "begins", "(III)V"⟩ ∈ wU := wU_s (q := (⟨"HalfByFiveModel", "begins", "(III)V"⟩, 24)) (List.mem_append_right _ (List.mem_append_right _ (List.mem_append_left _ (List.mem_of_getElem? (l := lw_privs_3) (i := 14) rfl))))
theorem ws3_15 : Cond.selects "HalfByFiveModel" ⟨"HalfByFiveModel", "bad", "()I"⟩ ⟨"HalfByFiveModel", "bad", "()I"⟩ ∈ wU := wU_s (q := (⟨"HalfByFiveModel", "bad", "()I"⟩, 24)) (List.mem_append_right _ (List.mem_append_right _ (List.mem_append_left _ (List.mem_of_getElem? (l := lw_privs_3) (i := 15) rfl))))
theorem ws4_0 : Cond.selects "HalfByFiveModel" ⟨"HalfByFiveModel", "becomes", "(II)I"⟩ ⟨"HalfByFiveModel", "becomes", "(II)I"⟩ ∈ wU := wU_s (q := (⟨"HalfByFiveModel", "becomes", "(II)I"⟩, 24)) (List.mem_append_right _ (List.mem_append_right _ (List.mem_append_right _ (List.mem_append_left _ (List.mem_of_getElem? (l := lw_privs_4) (i := 0) rfl)))))
theorem ws4_1 : Cond.selects "HalfByFiveModel" ⟨"HalfByFiveModel", "pricesFrom", "(III)V"⟩ ⟨"HalfByFiveModel", "pricesFrom", "(III)V"⟩ ∈ wU := wU_s (q := (⟨"HalfByFiveModel", "pricesFrom", "(III)V"⟩, 24)) (List.mem_append_right _ (List.mem_append_right _ (List.mem_append_right _ (List.mem_append_left _ (List.mem_of_getElem? (l := lw_privs_4) (i := 1) rfl)))))
theorem ws4_2 : Cond.selects "HalfByFiveModel" ⟨"HalfByFiveModel", "full", "()I"⟩ ⟨"HalfByFiveModel", "full", "()I"⟩ ∈ wU := wU_s (q := (⟨"HalfByFiveModel", "full", "()I"⟩, 24)) (List.mem_append_right _ (List.mem_append_right _ (List.mem_append_right _ (List.mem_append_left _ (List.mem_of_getElem? (l := lw_privs_4) (i := 2) rfl)))))
theorem ws4_3 : Cond.selects "HalfByFiveModel" ⟨"HalfByFiveModel", "adds", "(IIIII)I"⟩ ⟨"HalfByFiveModel", "adds", "(IIIII)I"⟩ ∈ wU := wU_s (q := (⟨"HalfByFiveModel", "adds", "(IIIII)I"⟩, 24)) (List.mem_append_right _ (List.mem_append_right _ (List.mem_append_right _ (List.mem_append_left _ (List.mem_of_getElem? (l := lw_privs_4) (i := 3) rfl)))))
theorem ws4_4 : Cond.selects "HalfByFiveModel" ⟨"HalfByFiveModel", "token", "()V"⟩ ⟨"HalfByFiveModel", "token", "()V"⟩ ∈ wU := wU_s (q := (⟨"HalfByFiveModel", "token", "()V"⟩, 24)) (List.mem_append_right _ (List.mem_append_right _ (List.mem_append_right _ (List.mem_append_left _ (List.mem_of_getElem? (l := lw_privs_4) (i := 4) rfl)))))
theorem ws4_5 : Cond.selects "HalfByFiveModel" ⟨"HalfByFiveModel", "byteAt", "(I)I"⟩ ⟨"HalfByFiveModel", "byteAt", "(I)I"⟩ ∈ wU := wU_s (q := (⟨"HalfByFiveModel", "byteAt", "(I)I"⟩, 24)) (List.mem_append_right _ (List.mem_append_right _ (List.mem_append_right _ (List.mem_append_left _ (List.mem_of_getElem? (l := lw_privs_4) (i := 5) rfl)))))
theorem ws4_6 : Cond.selects "HalfByFiveModel" ⟨"HalfByFiveModel", "takesItem", "(I)Z"⟩ ⟨"HalfByFiveModel", "takesItem", "(I)Z"⟩ ∈ wU := wU_s (q := (⟨"HalfByFiveModel", "takesItem", "(I)Z"⟩, 24)) (List.mem_append_right _ (List.mem_append_right _ (List.mem_append_right _ (List.mem_append_left _ (List.mem_of_getElem? (l := lw_privs_4) (i := 6) rfl)))))
theorem ws4_7 : Cond.selects "HalfByFiveModel" ⟨"HalfByFiveModel", "wordNow", "()I"⟩ ⟨"HalfByFiveModel", "wordNow", "()I"⟩ ∈ wU := wU_s (q := (⟨"HalfByFiveModel", "wordNow", "()I"⟩, 24)) (List.mem_append_right _ (List.mem_append_right _ (List.mem_append_right _ (List.mem_append_left _ (List.mem_of_getElem? (l := lw_privs_4) (i := 7) rfl)))))
theorem ws4_8 : Cond.selects "HalfByFiveModel" ⟨"HalfByFiveModel", "isNamed", "(IIIIII)Z"⟩ ⟨"HalfByFiveModel", "isNamed", "(IIIIII)Z"⟩ ∈ wU := wU_s (q := (⟨"HalfByFiveModel", "isNamed", "(IIIIII)Z"⟩, 24)) (List.mem_append_right _ (List.mem_append_right _ (List.mem_append_right _ (List.mem_append_left _ (List.mem_of_getElem? (l := lw_privs_4) (i := 8) rfl)))))
theorem ws4_9 : Cond.selects "HalfByFiveModel" ⟨"HalfByFiveModel", "takesMarket", "()Z"⟩ ⟨"HalfByFiveModel", "takesMarket", "()Z"⟩ ∈ wU := wU_s (q := (⟨"HalfByFiveModel", "takesMarket", "()Z"⟩, 24)) (List.mem_append_right _ (List.mem_append_right _ (List.mem_append_right _ (List.mem_append_left _ (List.mem_of_getElem? (l := lw_privs_4) (i := 9) rfl)))))
theorem ws4_10 : Cond.selects "HalfByFiveModel" ⟨"HalfByFiveModel", "takesNumber", "(II)Z"⟩ ⟨"HalfByFiveModel", "takesNumber", "(II)Z"⟩ ∈ wU := wU_s (q := (⟨"HalfByFiveModel", "takesNumber", "(II)Z"⟩, 24)) (List.mem_append_right _ (List.mem_append_right _ (List.mem_append_right _ (List.mem_append_left _ (List.mem_of_getElem? (l := lw_privs_4) (i := 10) rfl)))))
theorem ws4_11 : Cond.selects "HalfByFiveModel" ⟨"HalfByFiveModel", "takesBuyer", "()Z"⟩ ⟨"HalfByFiveModel", "takesBuyer", "()Z"⟩ ∈ wU := wU_s (q := (⟨"HalfByFiveModel", "takesBuyer", "()Z"⟩, 24)) (List.mem_append_right _ (List.mem_append_right _ (List.mem_append_right _ (List.mem_append_left _ (List.mem_of_getElem? (l := lw_privs_4) (i := 11) rfl)))))
theorem ws4_12 : Cond.selects "HalfByFiveModel" ⟨"HalfByFiveModel", "takesHourAnd", "(I)Z"⟩ ⟨"HalfByFiveModel", "takesHourAnd", "(I)Z"⟩ ∈ wU := wU_s (q := (⟨"HalfByFiveModel", "takesHourAnd", "(I)Z"⟩, 24)) (List.mem_append_right _ (List.mem_append_right _ (List.mem_append_right _ (List.mem_append_left _ (List.mem_of_getElem? (l := lw_privs_4) (i := 12) rfl)))))
theorem ws4_13 : Cond.selects "HalfByFiveModel" ⟨"HalfByFiveModel", "copy", "(II)V"⟩ ⟨"HalfByFiveModel", "copy", "(II)V"⟩ ∈ wU := wU_s (q := (⟨"HalfByFiveModel", "copy", "(II)V"⟩, 24)) (List.mem_append_right _ (List.mem_append_right _ (List.mem_append_right _ (List.mem_append_left _ (List.mem_of_getElem? (l := lw_privs_4) (i := 13) rfl)))))
theorem ws4_14 : Cond.selects "HalfByFiveModel" ⟨"HalfByFiveModel", "minds", "()V"⟩ ⟨"HalfByFiveModel", "minds", "()V"⟩ ∈ wU := wU_s (q := (⟨"HalfByFiveModel", "minds", "()V"⟩, 24)) (List.mem_append_right _ (List.mem_append_right _ (List.mem_append_right _ (List.mem_append_left _ (List.mem_of_getElem? (l := lw_privs_4) (i := 14) rfl)))))
theorem ws4_15 : Cond.selects "HalfByFiveModel" ⟨"HalfByFiveModel", "triesAll", "()V"⟩ ⟨"HalfByFiveModel", "triesAll", "()V"⟩ ∈ wU := wU_s (q := (⟨"HalfByFiveModel", "triesAll", "()V"⟩, 24)) (List.mem_append_right _ (List.mem_append_right _ (List.mem_append_right _ (List.mem_append_left _ (List.mem_of_getElem? (l := lw_privs_4) (i := 15) rfl)))))
theorem ws5_0 : Cond.selects "HalfByFiveModel" ⟨"HalfByFiveModel", "tries", "(I)V"⟩ ⟨"HalfByFiveModel", "tries", "(I)V"⟩ ∈ wU := wU_s (q := (⟨"HalfByFiveModel", "tries", "(I)V"⟩, 24)) (List.mem_append_right _ (List.mem_append_right _ (List.mem_append_right _ (List.mem_append_right _ (List.mem_append_left _ (List.mem_of_getElem? (l := lw_privs_5) (i := 0) rfl))))))
theorem ws5_1 : Cond.selects "HalfByFiveModel" ⟨"HalfByFiveModel", "hourOf", "(I)I"⟩ ⟨"HalfByFiveModel", "hourOf", "(I)I"⟩ ∈ wU := wU_s (q := (⟨"HalfByFiveModel", "hourOf", "(I)I"⟩, 24)) (List.mem_append_right _ (List.mem_append_right _ (List.mem_append_right _ (List.mem_append_right _ (List.mem_append_left _ (List.mem_of_getElem? (l := lw_privs_5) (i := 1) rfl))))))
theorem ws5_2 : Cond.selects "HalfByFiveModel" ⟨"HalfByFiveModel", "waitsIn", "(I)I"⟩ ⟨"HalfByFiveModel", "waitsIn", "(I)I"⟩ ∈ wU := wU_s (q := (⟨"HalfByFiveModel", "waitsIn", "(I)I"⟩, 24)) (List.mem_append_right _ (List.mem_append_right _ (List.mem_append_right _ (List.mem_append_right _ (List.mem_append_left _ (List.mem_of_getElem? (l := lw_privs_5) (i := 2) rfl))))))
theorem ws5_3 : Cond.selects "HalfByFiveModel" ⟨"HalfByFiveModel", "comes", "(II)V"⟩ ⟨"HalfByFiveModel", "comes", "(II)V"⟩ ∈ wU := wU_s (q := (⟨"HalfByFiveModel", "comes", "(II)V"⟩, 24)) (List.mem_append_right _ (List.mem_append_right _ (List.mem_append_right _ (List.mem_append_right _ (List.mem_append_left _ (List.mem_of_getElem? (l := lw_privs_5) (i := 3) rfl))))))
theorem ws5_4 : Cond.selects "HalfByFiveModel" ⟨"HalfByFiveModel", "paysOf", "(I)I"⟩ ⟨"HalfByFiveModel", "paysOf", "(I)I"⟩ ∈ wU := wU_s (q := (⟨"HalfByFiveModel", "paysOf", "(I)I"⟩, 24)) (List.mem_append_right _ (List.mem_append_right _ (List.mem_append_right _ (List.mem_append_right _ (List.mem_append_left _ (List.mem_of_getElem? (l := lw_privs_5) (i := 4) rfl))))))
theorem ws5_5 : Cond.selects "HalfByFiveModel" ⟨"HalfByFiveModel", "plainPays", "(II)I"⟩ ⟨"HalfByFiveModel", "plainPays", "(II)I"⟩ ∈ wU := wU_s (q := (⟨"HalfByFiveModel", "plainPays", "(II)I"⟩, 24)) (List.mem_append_right _ (List.mem_append_right _ (List.mem_append_right _ (List.mem_append_right _ (List.mem_append_left _ (List.mem_of_getElem? (l := lw_privs_5) (i := 5) rfl))))))
theorem ws5_6 : Cond.selects "HalfByFiveModel" ⟨"HalfByFiveModel", "takesOf", "(I)I"⟩ ⟨"HalfByFiveModel", "takesOf", "(I)I"⟩ ∈ wU := wU_s (q := (⟨"HalfByFiveModel", "takesOf", "(I)I"⟩, 24)) (List.mem_append_right _ (List.mem_append_right _ (List.mem_append_right _ (List.mem_append_right _ (List.mem_append_left _ (List.mem_of_getElem? (l := lw_privs_5) (i := 6) rfl))))))
theorem ws5_7 : Cond.selects "HalfByFiveModel" ⟨"HalfByFiveModel", "learns", "()V"⟩ ⟨"HalfByFiveModel", "learns", "()V"⟩ ∈ wU := wU_s (q := (⟨"HalfByFiveModel", "learns", "()V"⟩, 24)) (List.mem_append_right _ (List.mem_append_right _ (List.mem_append_right _ (List.mem_append_right _ (List.mem_append_left _ (List.mem_of_getElem? (l := lw_privs_5) (i := 7) rfl))))))
theorem ws5_8 : Cond.selects "HalfByFiveModel" ⟨"HalfByFiveModel", "isCheaper", "(I)Z"⟩ ⟨"HalfByFiveModel", "isCheaper", "(I)Z"⟩ ∈ wU := wU_s (q := (⟨"HalfByFiveModel", "isCheaper", "(I)Z"⟩, 24)) (List.mem_append_right _ (List.mem_append_right _ (List.mem_append_right _ (List.mem_append_right _ (List.mem_append_left _ (List.mem_of_getElem? (l := lw_privs_5) (i := 8) rfl))))))
theorem ws5_9 : Cond.selects "HalfByFiveModel" ⟨"HalfByFiveModel", "no", "()I"⟩ ⟨"HalfByFiveModel", "no", "()I"⟩ ∈ wU := wU_s (q := (⟨"HalfByFiveModel", "no", "()I"⟩, 24)) (List.mem_append_right _ (List.mem_append_right _ (List.mem_append_right _ (List.mem_append_right _ (List.mem_append_left _ (List.mem_of_getElem? (l := lw_privs_5) (i := 9) rfl))))))
theorem ws5_10 : Cond.selects "HalfByFiveModel" ⟨"HalfByFiveModel", "isBuyer", "(I)Z"⟩ ⟨"HalfByFiveModel", "isBuyer", "(I)Z"⟩ ∈ wU := wU_s (q := (⟨"HalfByFiveModel", "isBuyer", "(I)Z"⟩, 24)) (List.mem_append_right _ (List.mem_append_right _ (List.mem_append_right _ (List.mem_append_right _ (List.mem_append_left _ (List.mem_of_getElem? (l := lw_privs_5) (i := 10) rfl))))))
theorem ws5_11 : Cond.selects "HalfByFiveModel" ⟨"HalfByFiveModel", "lays", "()V"⟩ ⟨"HalfByFiveModel", "lays", "()V"⟩ ∈ wU := wU_s (q := (⟨"HalfByFiveModel", "lays", "()V"⟩, 24)) (List.mem_append_right _ (List.mem_append_right _ (List.mem_append_right _ (List.mem_append_right _ (List.mem_append_left _ (List.mem_of_getElem? (l := lw_privs_5) (i := 11) rfl))))))
theorem ws5_12 : Cond.selects "HalfByFiveModel" ⟨"HalfByFiveModel", "putsBack", "()V"⟩ ⟨"HalfByFiveModel", "putsBack", "()V"⟩ ∈ wU := wU_s (q := (⟨"HalfByFiveModel", "putsBack", "()V"⟩, 24)) (List.mem_append_right _ (List.mem_append_right _ (List.mem_append_right _ (List.mem_append_right _ (List.mem_append_left _ (List.mem_of_getElem? (l := lw_privs_5) (i := 12) rfl))))))
theorem ws5_13 : Cond.selects "HalfByFiveModel" ⟨"HalfByFiveModel", "badAs", "(I)I"⟩ ⟨"HalfByFiveModel", "badAs", "(I)I"⟩ ∈ wU := wU_s (q := (⟨"HalfByFiveModel", "badAs", "(I)I"⟩, 24)) (List.mem_append_right _ (List.mem_append_right _ (List.mem_append_right _ (List.mem_append_right _ (List.mem_append_left _ (List.mem_of_getElem? (l := lw_privs_5) (i := 13) rfl))))))
theorem ws5_14 : Cond.selects "HalfByFiveModel" ⟨"HalfByFiveModel", "tells", "(JJ)V"⟩ ⟨"HalfByFiveModel", "tells", "(JJ)V"⟩ ∈ wU := wU_s (q := (⟨"HalfByFiveModel", "tells", "(JJ)V"⟩, 24)) (List.mem_append_right _ (List.mem_append_right _ (List.mem_append_right _ (List.mem_append_right _ (List.mem_append_left _ (List.mem_of_getElem? (l := lw_privs_5) (i := 14) rfl))))))
theorem ws5_15 : Cond.selects "HalfByFiveModel" ⟨"HalfByFiveModel", "countOf", "(I)I"⟩ ⟨"HalfByFiveModel", "countOf", "(I)I"⟩ ∈ wU := wU_s (q := (⟨"HalfByFiveModel", "countOf", "(I)I"⟩, 24)) (List.mem_append_right _ (List.mem_append_right _ (List.mem_append_right _ (List.mem_append_right _ (List.mem_append_left _ (List.mem_of_getElem? (l := lw_privs_5) (i := 15) rfl))))))
theorem ws6_0 : Cond.selects "HalfByFiveModel" ⟨"HalfByFiveModel", "mix", "(J)V"⟩ ⟨"HalfByFiveModel", "mix", "(J)V"⟩ ∈ wU := wU_s (q := (⟨"HalfByFiveModel", "mix", "(J)V"⟩, 24)) (List.mem_append_right _ (List.mem_append_right _ (List.mem_append_right _ (List.mem_append_right _ (List.mem_append_right _ ((List.mem_of_getElem? (l := lw_privs_6) (i := 0) rfl)))))))
theorem inU0 : ∀ w ∈ u_ws RX0 TX0 0, w ∈ wU := fun w hw => absurd hw List.not_mem_nil
theorem inU1 : ∀ w ∈ u_ws RX1 TX1 0, w ∈ wU := fun w hw => absurd hw List.not_mem_nil
theorem inU2 : ∀ w ∈ u_ws RX2 TX2 12, w ∈ wU := by
  intro w hw
  obtain ⟨k, hk, rfl⟩ := List.mem_map.mp hw
  have hk := List.mem_range.mp hk
  match k, hk with
  | 0, _ => exact w1_189
  | 1, _ => exact w1_191
  | 2, _ => exact w1_193
  | 3, _ => exact w1_195
  | 4, _ => exact w1_197
  | 5, _ => exact w1_199
  | 6, _ => exact w1_201
  | 7, _ => exact w1_203
  | 8, _ => exact w1_205
  | 9, _ => exact w1_207
  | 10, _ => exact w1_209
  | 11, _ => exact w1_211
  | k + 12, h => exact absurd h (by omega)
theorem inU3 : ∀ w ∈ u_ws RX3 TX3 17, w ∈ wU := by
  intro w hw
  obtain ⟨k, hk, rfl⟩ := List.mem_map.mp hw
  have hk := List.mem_range.mp hk
  match k, hk with
  | 0, _ => exact w1_81
  | 1, _ => exact w1_83
  | 2, _ => exact w1_85
  | 3, _ => exact w1_87
  | 4, _ => exact w1_89
  | 5, _ => exact w1_91
  | 6, _ => exact w1_93
  | 7, _ => exact w1_95
  | 8, _ => exact w1_97
  | 9, _ => exact w1_99
  | 10, _ => exact w1_101
  | 11, _ => exact w1_103
  | 12, _ => exact w1_105
  | 13, _ => exact w1_107
  | 14, _ => exact w1_109
  | 15, _ => exact w1_111
  | 16, _ => exact w1_113
  | k + 17, h => exact absurd h (by omega)
theorem inU4 : ∀ w ∈ u_ws RX4 TX4 0, w ∈ wU := fun w hw => absurd hw List.not_mem_nil
theorem inU5 : ∀ w ∈ u_ws RX5 TX5 0, w ∈ wU := fun w hw => absurd hw List.not_mem_nil
theorem inU6 : ∀ w ∈ u_ws RX6 TX6 6, w ∈ wU := by
  intro w hw
  obtain ⟨k, hk, rfl⟩ := List.mem_map.mp hw
  have hk := List.mem_range.mp hk
  match k, hk with
  | 0, _ => exact w2_14
  | 1, _ => exact w2_16
  | 2, _ => exact w2_18
  | 3, _ => exact w2_20
  | 4, _ => exact w2_22
  | 5, _ => exact w2_24
  | k + 6, h => exact absurd h (by omega)
theorem inU7 : ∀ w ∈ u_ws RX7 TX7 0, w ∈ wU := fun w hw => absurd hw List.not_mem_nil
theorem inU8 : ∀ w ∈ u_ws RX8 TX8 6, w ∈ wU := by
  intro w hw
  obtain ⟨k, hk, rfl⟩ := List.mem_map.mp hw
  have hk := List.mem_range.mp hk
  match k, hk with
  | 0, _ => exact w1_228
  | 1, _ => exact w1_230
  | 2, _ => exact w1_232
  | 3, _ => exact w1_234
  | 4, _ => exact w1_236
  | 5, _ => exact w1_238
  | k + 6, h => exact absurd h (by omega)
theorem inU9 : ∀ w ∈ u_ws RX9 TX9 0, w ∈ wU := fun w hw => absurd hw List.not_mem_nil
theorem inU10 : ∀ w ∈ u_ws RX10 TX10 12, w ∈ wU := by
  intro w hw
  obtain ⟨k, hk, rfl⟩ := List.mem_map.mp hw
  have hk := List.mem_range.mp hk
  match k, hk with
  | 0, _ => exact w2_39
  | 1, _ => exact w2_41
  | 2, _ => exact w2_43
  | 3, _ => exact w2_45
  | 4, _ => exact w2_47
  | 5, _ => exact w2_49
  | 6, _ => exact w2_51
  | 7, _ => exact w2_53
  | 8, _ => exact w2_55
  | 9, _ => exact w2_57
  | 10, _ => exact w2_59
  | 11, _ => exact w2_61
  | k + 12, h => exact absurd h (by omega)
theorem inU11 : ∀ w ∈ u_ws RX11 TX11 24, w ∈ wU := by
  intro w hw
  obtain ⟨k, hk, rfl⟩ := List.mem_map.mp hw
  have hk := List.mem_range.mp hk
  match k, hk with
  | 0, _ => exact w4_122
  | 1, _ => exact w4_124
  | 2, _ => exact w4_126
  | 3, _ => exact w4_128
  | 4, _ => exact w4_130
  | 5, _ => exact w4_132
  | 6, _ => exact w4_134
  | 7, _ => exact w4_136
  | 8, _ => exact w4_138
  | 9, _ => exact w4_140
  | 10, _ => exact w4_142
  | 11, _ => exact w4_144
  | 12, _ => exact w4_146
  | 13, _ => exact w4_148
  | 14, _ => exact w4_150
  | 15, _ => exact w4_152
  | 16, _ => exact w4_154
  | 17, _ => exact w4_156
  | 18, _ => exact w4_158
  | 19, _ => exact w4_160
  | 20, _ => exact w4_162
  | 21, _ => exact w4_164
  | 22, _ => exact w4_166
  | 23, _ => exact w4_168
  | k + 24, h => exact absurd h (by omega)
theorem cellM_at {Γ : GC} {σ : GSt} {k : Nat} {mm : MMt} {u : MSt} (hk : k < 4) (h : σ.1.2.1 = setM k mm u) {j : Nat} (hj : j < 10) {e : va_E} (he : (cellsM Γ k u)[j]? = some e) : cell Γ σ (10 * k + j) = e := by
  unfold cell
  rw [if_pos (by omega), show (10 * k + j) / 10 = k by omega, show (10 * k + j) % 10 = j by omega, h, getM_set, List.getD_eq_getElem?_getD, he]
  rfl
theorem cellC_at {Γ : GC} {σ : GSt} {i : Nat} (h1 : 40 ≤ i) (h2 : i < 66) {e : va_E} (he : (cellsC Γ σ.1.1 σ.1.2.2)[i - 40]? = some e) : cell Γ σ i = e := by
  unfold cell
  rw [if_neg (by omega), if_pos h2, List.getD_eq_getElem?_getD, he]
  rfl
theorem cellL_at {Γ : GC} {σ : GSt} {i : Nat} (h1 : 66 ≤ i) {e : va_E} (he : (cellsL Γ σ.2)[i - 66]? = some e) : cell Γ σ i = e := by
  unfold cell
  rw [if_neg (by omega), if_neg (by omega), List.getD_eq_getElem?_getD, he]
  rfl
theorem getD_set_self {α : Type} (l : List α) (j : Nat) (e d : α) (h : j < l.length) : (l.set j e).getD j d = e := by
  rw [List.getD_eq_getElem?_getD, List.getElem?_set_self h]
  rfl
theorem getD_set_ne {α : Type} (l : List α) {i j : Nat} (e d : α) (h : i ≠ j) : (l.set j e).getD i d = l.getD i d := by
  rw [List.getD_eq_getElem?_getD, List.getElem?_set_ne (fun q => h q.symm), ← List.getD_eq_getElem?_getD]
theorem cuC {Γ : GC} {σ σ' : GSt} {i : Nat} {e : va_E} (h0 : 40 ≤ i) (h9 : i < 66) (h1 : σ'.1.2.1 = σ.1.2.1) (h2 : σ'.2 = σ.2) (h : cellsC Γ σ'.1.1 σ'.1.2.2 = (cellsC Γ σ.1.1 σ.1.2.2).set (i - 40) e) : cu Γ σ i e σ' := by
  unfold cu cell
  refine ⟨?_, fun j hj hn => ?_⟩
  · rw [if_neg (by omega), if_pos h9, h, getD_set_self]
    show i - 40 < 26
    omega
  · by_cases a : j < 40
    · rw [if_pos a, if_pos a, h1]
    · rw [if_neg a, if_neg a]
      by_cases b : j < 66
      · rw [if_pos b, if_pos b, h, getD_set_ne _ _ _ (by omega)]
      · rw [if_neg b, if_neg b, h2]
theorem cuL {Γ : GC} {σ σ' : GSt} {i : Nat} {e : va_E} (h0 : 66 ≤ i) (h9 : i < 77) (h1 : σ'.1 = σ.1) (h : cellsL Γ σ'.2 = (cellsL Γ σ.2).set (i - 66) e) : cu Γ σ i e σ' := by
  unfold cu cell
  refine ⟨?_, fun j hj hn => ?_⟩
  · rw [if_neg (by omega), if_neg (by omega), h, getD_set_self]
    show i - 66 < 11
    omega
  · by_cases a : j < 40
    · rw [if_pos a, if_pos a, h1]
    · rw [if_neg a, if_neg a]
      by_cases b : j < 66
      · rw [if_pos b, if_pos b, h1]
      · rw [if_neg b, if_neg b, h, getD_set_ne _ _ _ (by omega)]
theorem cuM {Γ : GC} {σ σ' : GSt} {k j : Nat} {mm : MMt} {u u' : MSt} {e : va_E} (hk : k < 4) (hj : j < 10) (h0 : σ.1.2.1 = setM k mm u) (h1 : σ' = ((σ.1.1, setM k mm u', σ.1.2.2), σ.2)) (h : cellsM Γ k u' = (cellsM Γ k u).set j e) : cu Γ σ (10 * k + j) e σ' := by
  have g1 : σ'.1.1 = σ.1.1 := by rw [h1]
  have g2 : σ'.1.2.1 = setM k mm u' := by rw [h1]
  have g3 : σ'.1.2.2 = σ.1.2.2 := by rw [h1]
  have g4 : σ'.2 = σ.2 := by rw [h1]
  unfold cu cell
  refine ⟨?_, fun i hi hn => ?_⟩
  · rw [if_pos (by omega), show (10 * k + j) / 10 = k by omega, show (10 * k + j) % 10 = j by omega, g2, getM_set, h, getD_set_self]
    exact hj
  · by_cases a : i < 40
    · rw [if_pos a, if_pos a, g2, h0]
      by_cases b : i / 10 = k
      · rw [b, getM_set, getM_set, h, getD_set_ne _ _ _ (by omega)]
      · rw [getM_ne hk (by omega) b mm u' u]
    · rw [if_neg a, if_neg a, g1, g3, g4]
theorem cl_M {Γ : GC} {σ : GSt} {k : Nat} {mm : MMt} {u : MSt} (hk : k < 4) (h : σ.1.2.1 = setM k mm u) : cell Γ σ (10 * k) = .inr (3, fM Γ k u) := cellM_at hk h (j := 0) (by decide) rfl
theorem cl_M_prices {Γ : GC} {σ : GSt} {k : Nat} {mm : MMt} {u : MSt} (hk : k < 4) (h : σ.1.2.1 = setM k mm u) : cell Γ σ (10 * k + 1) = .inl (ca Γ 0, 10, .inl (pM_prices u)) := cellM_at hk h (j := 1) (by decide) rfl
theorem cl_M_theirPrices {Γ : GC} {σ : GSt} {k : Nat} {mm : MMt} {u : MSt} (hk : k < 4) (h : σ.1.2.1 = setM k mm u) : cell Γ σ (10 * k + 2) = .inl (ca Γ 0, 10, .inl (pM_theirPrices u)) := cellM_at hk h (j := 2) (by decide) rfl
theorem cl_M_kinds {Γ : GC} {σ : GSt} {k : Nat} {mm : MMt} {u : MSt} (hk : k < 4) (h : σ.1.2.1 = setM k mm u) : cell Γ σ (10 * k + 3) = .inl (ca Γ 0, 8, .inl (pM_kinds u)) := cellM_at hk h (j := 3) (by decide) rfl
theorem cl_M_hours {Γ : GC} {σ : GSt} {k : Nat} {mm : MMt} {u : MSt} (hk : k < 4) (h : σ.1.2.1 = setM k mm u) : cell Γ σ (10 * k + 4) = .inl (ca Γ 0, 8, .inl (pM_hours u)) := cellM_at hk h (j := 4) (by decide) rfl
theorem cl_M_worths {Γ : GC} {σ : GSt} {k : Nat} {mm : MMt} {u : MSt} (hk : k < 4) (h : σ.1.2.1 = setM k mm u) : cell Γ σ (10 * k + 5) = .inl (ca Γ 0, 8, .inl (pM_worths u)) := cellM_at hk h (j := 5) (by decide) rfl
theorem cl_M_wants {Γ : GC} {σ : GSt} {k : Nat} {mm : MMt} {u : MSt} (hk : k < 4) (h : σ.1.2.1 = setM k mm u) : cell Γ σ (10 * k + 6) = .inl (ca Γ 0, 8, .inl (pM_wants u)) := cellM_at hk h (j := 6) (by decide) rfl
theorem cl_M_soldHours {Γ : GC} {σ : GSt} {k : Nat} {mm : MMt} {u : MSt} (hk : k < 4) (h : σ.1.2.1 = setM k mm u) : cell Γ σ (10 * k + 7) = .inl (ca Γ 0, 6, .inl (pM_soldHours u)) := cellM_at hk h (j := 7) (by decide) rfl
theorem cl_M_soldNumbers {Γ : GC} {σ : GSt} {k : Nat} {mm : MMt} {u : MSt} (hk : k < 4) (h : σ.1.2.1 = setM k mm u) : cell Γ σ (10 * k + 8) = .inl (ca Γ 0, 6, .inl (pM_soldNumbers u)) := cellM_at hk h (j := 8) (by decide) rfl
theorem cl_M_past {Γ : GC} {σ : GSt} {k : Nat} {mm : MMt} {u : MSt} (hk : k < 4) (h : σ.1.2.1 = setM k mm u) : cell Γ σ (10 * k + 9) = .inl (ca Γ 0, 80, .inl (pM_past u)) := cellM_at hk h (j := 9) (by decide) rfl
theorem cu_M_punnets {Γ : GC} {σ σ' : GSt} {k : Nat} {mm : MMt} {u : MSt} {v : Int32} (hk : k < 4) (h : σ.1.2.1 = setM k mm u) (h1 : σ' = ((σ.1.1, setM k mm (sM_punnets u v), σ.1.2.2), σ.2)) : cu Γ σ (10 * k) (.inr (3, (fM Γ k u).set 0 (.int v))) σ' := cuM (j := 0) hk (by decide) h h1 rfl
theorem cu_M_heat {Γ : GC} {σ σ' : GSt} {k : Nat} {mm : MMt} {u : MSt} {v : Int32} (hk : k < 4) (h : σ.1.2.1 = setM k mm u) (h1 : σ' = ((σ.1.1, setM k mm (sM_heat u v), σ.1.2.2), σ.2)) : cu Γ σ (10 * k) (.inr (3, (fM Γ k u).set 1 (.int v))) σ' := cuM (j := 0) hk (by decide) h h1 rfl
theorem cu_M_rainHours {Γ : GC} {σ σ' : GSt} {k : Nat} {mm : MMt} {u : MSt} {v : Int32} (hk : k < 4) (h : σ.1.2.1 = setM k mm u) (h1 : σ' = ((σ.1.1, setM k mm (sM_rainHours u v), σ.1.2.2), σ.2)) : cu Γ σ (10 * k) (.inr (3, (fM Γ k u).set 2 (.int v))) σ' := cuM (j := 0) hk (by decide) h h1 rfl
theorem cu_M_size {Γ : GC} {σ σ' : GSt} {k : Nat} {mm : MMt} {u : MSt} {v : Int32} (hk : k < 4) (h : σ.1.2.1 = setM k mm u) (h1 : σ' = ((σ.1.1, setM k mm (sM_size u v), σ.1.2.2), σ.2)) : cu Γ σ (10 * k) (.inr (3, (fM Γ k u).set 3 (.int v))) σ' := cuM (j := 0) hk (by decide) h h1 rfl
theorem cu_M_totalTakings {Γ : GC} {σ σ' : GSt} {k : Nat} {mm : MMt} {u : MSt} {v : Int32} (hk : k < 4) (h : σ.1.2.1 = setM k mm u) (h1 : σ' = ((σ.1.1, setM k mm (sM_totalTakings u v), σ.1.2.2), σ.2)) : cu Γ σ (10 * k) (.inr (3, (fM Γ k u).set 4 (.int v))) σ' := cuM (j := 0) hk (by decide) h h1 rfl
theorem cu_M_totalThrown {Γ : GC} {σ σ' : GSt} {k : Nat} {mm : MMt} {u : MSt} {v : Int32} (hk : k < 4) (h : σ.1.2.1 = setM k mm u) (h1 : σ' = ((σ.1.1, setM k mm (sM_totalThrown u v), σ.1.2.2), σ.2)) : cu Γ σ (10 * k) (.inr (3, (fM Γ k u).set 5 (.int v))) σ' := cuM (j := 0) hk (by decide) h h1 rfl
theorem cu_M_soldSize {Γ : GC} {σ σ' : GSt} {k : Nat} {mm : MMt} {u : MSt} {v : Int32} (hk : k < 4) (h : σ.1.2.1 = setM k mm u) (h1 : σ' = ((σ.1.1, setM k mm (sM_soldSize u v), σ.1.2.2), σ.2)) : cu Γ σ (10 * k) (.inr (3, (fM Γ k u).set 6 (.int v))) σ' := cuM (j := 0) hk (by decide) h h1 rfl
theorem cu_M_pastSize {Γ : GC} {σ σ' : GSt} {k : Nat} {mm : MMt} {u : MSt} {v : Int32} (hk : k < 4) (h : σ.1.2.1 = setM k mm u) (h1 : σ' = ((σ.1.1, setM k mm (sM_pastSize u v), σ.1.2.2), σ.2)) : cu Γ σ (10 * k) (.inr (3, (fM Γ k u).set 7 (.int v))) σ' := cuM (j := 0) hk (by decide) h h1 rfl
theorem cu_M_prices {Γ : GC} {σ σ' : GSt} {k : Nat} {mm : MMt} {u : MSt} {v : Nat → Int32} (hk : k < 4) (h : σ.1.2.1 = setM k mm u) (h1 : σ' = ((σ.1.1, setM k mm (sM_prices u v), σ.1.2.2), σ.2)) : cu Γ σ (10 * k + 1) (.inl (ca Γ 0, 10, .inl v)) σ' := cuM (j := 1) hk (by decide) h h1 rfl
theorem cu_M_theirPrices {Γ : GC} {σ σ' : GSt} {k : Nat} {mm : MMt} {u : MSt} {v : Nat → Int32} (hk : k < 4) (h : σ.1.2.1 = setM k mm u) (h1 : σ' = ((σ.1.1, setM k mm (sM_theirPrices u v), σ.1.2.2), σ.2)) : cu Γ σ (10 * k + 2) (.inl (ca Γ 0, 10, .inl v)) σ' := cuM (j := 2) hk (by decide) h h1 rfl
theorem cu_M_kinds {Γ : GC} {σ σ' : GSt} {k : Nat} {mm : MMt} {u : MSt} {v : Nat → Int32} (hk : k < 4) (h : σ.1.2.1 = setM k mm u) (h1 : σ' = ((σ.1.1, setM k mm (sM_kinds u v), σ.1.2.2), σ.2)) : cu Γ σ (10 * k + 3) (.inl (ca Γ 0, 8, .inl v)) σ' := cuM (j := 3) hk (by decide) h h1 rfl
theorem cu_M_hours {Γ : GC} {σ σ' : GSt} {k : Nat} {mm : MMt} {u : MSt} {v : Nat → Int32} (hk : k < 4) (h : σ.1.2.1 = setM k mm u) (h1 : σ' = ((σ.1.1, setM k mm (sM_hours u v), σ.1.2.2), σ.2)) : cu Γ σ (10 * k + 4) (.inl (ca Γ 0, 8, .inl v)) σ' := cuM (j := 4) hk (by decide) h h1 rfl
theorem cu_M_worths {Γ : GC} {σ σ' : GSt} {k : Nat} {mm : MMt} {u : MSt} {v : Nat → Int32} (hk : k < 4) (h : σ.1.2.1 = setM k mm u) (h1 : σ' = ((σ.1.1, setM k mm (sM_worths u v), σ.1.2.2), σ.2)) : cu Γ σ (10 * k + 5) (.inl (ca Γ 0, 8, .inl v)) σ' := cuM (j := 5) hk (by decide) h h1 rfl
theorem cu_M_wants {Γ : GC} {σ σ' : GSt} {k : Nat} {mm : MMt} {u : MSt} {v : Nat → Int32} (hk : k < 4) (h : σ.1.2.1 = setM k mm u) (h1 : σ' = ((σ.1.1, setM k mm (sM_wants u v), σ.1.2.2), σ.2)) : cu Γ σ (10 * k + 6) (.inl (ca Γ 0, 8, .inl v)) σ' := cuM (j := 6) hk (by decide) h h1 rfl
theorem cu_M_soldHours {Γ : GC} {σ σ' : GSt} {k : Nat} {mm : MMt} {u : MSt} {v : Nat → Int32} (hk : k < 4) (h : σ.1.2.1 = setM k mm u) (h1 : σ' = ((σ.1.1, setM k mm (sM_soldHours u v), σ.1.2.2), σ.2)) : cu Γ σ (10 * k + 7) (.inl (ca Γ 0, 6, .inl v)) σ' := cuM (j := 7) hk (by decide) h h1 rfl
theorem cu_M_soldNumbers {Γ : GC} {σ σ' : GSt} {k : Nat} {mm : MMt} {u : MSt} {v : Nat → Int32} (hk : k < 4) (h : σ.1.2.1 = setM k mm u) (h1 : σ' = ((σ.1.1, setM k mm (sM_soldNumbers u v), σ.1.2.2), σ.2)) : cu Γ σ (10 * k + 8) (.inl (ca Γ 0, 6, .inl v)) σ' := cuM (j := 8) hk (by decide) h h1 rfl
theorem cu_M_past {Γ : GC} {σ σ' : GSt} {k : Nat} {mm : MMt} {u : MSt} {v : Nat → Int32} (hk : k < 4) (h : σ.1.2.1 = setM k mm u) (h1 : σ' = ((σ.1.1, setM k mm (sM_past u v), σ.1.2.2), σ.2)) : cu Γ σ (10 * k + 9) (.inl (ca Γ 0, 80, .inl v)) σ' := cuM (j := 9) hk (by decide) h h1 rfl
theorem cl_D {Γ : GC} {σ : GSt} {u : DSt} (h : σ.1.2.2.1 = u) : cell Γ σ 40 = .inr (2, fD Γ u) := by subst h; exact cellC_at (by decide) (by decide) rfl
theorem cl_D_when {Γ : GC} {σ : GSt} {u : DSt} (h : σ.1.2.2.1 = u) : cell Γ σ 41 = .inl (ca Γ 0, 8, .inl (pD_when u)) := by subst h; exact cellC_at (by decide) (by decide) rfl
theorem cl_D_pays {Γ : GC} {σ : GSt} {u : DSt} (h : σ.1.2.2.1 = u) : cell Γ σ 42 = .inl (ca Γ 0, 8, .inl (pD_pays u)) := by subst h; exact cellC_at (by decide) (by decide) rfl
theorem cl_D_carries {Γ : GC} {σ : GSt} {u : DSt} (h : σ.1.2.2.1 = u) : cell Γ σ 43 = .inl (ca Γ 0, 8, .inl (pD_carries u)) := by subst h; exact cellC_at (by decide) (by decide) rfl
theorem cl_D_staysAway {Γ : GC} {σ : GSt} {u : DSt} (h : σ.1.2.2.1 = u) : cell Γ σ 44 = .inl (ca Γ 1, 8, .inl (pD_staysAway u)) := by subst h; exact cellC_at (by decide) (by decide) rfl
theorem cl_D_order {Γ : GC} {σ : GSt} {u : DSt} (h : σ.1.2.2.1 = u) : cell Γ σ 45 = .inl (ca Γ 0, 8, .inl (pD_order u)) := by subst h; exact cellC_at (by decide) (by decide) rfl
theorem cl_D_gone {Γ : GC} {σ : GSt} {u : DSt} (h : σ.1.2.2.1 = u) : cell Γ σ 46 = .inl (ca Γ 0, 10, .inl (pD_gone u)) := by subst h; exact cellC_at (by decide) (by decide) rfl
theorem cl_D_got {Γ : GC} {σ : GSt} {u : DSt} (h : σ.1.2.2.1 = u) : cell Γ σ 47 = .inl (ca Γ 0, 8, .inl (pD_got u)) := by subst h; exact cellC_at (by decide) (by decide) rfl
theorem cl_D_served {Γ : GC} {σ : GSt} {u : DSt} (h : σ.1.2.2.1 = u) : cell Γ σ 48 = .inl (ca Γ 0, 8, .inl (pD_served u)) := by subst h; exact cellC_at (by decide) (by decide) rfl
theorem cu_D_when {Γ : GC} {σ σ' : GSt} {u : DSt} {v : Nat → Int32} (h : σ.1.2.2.1 = u) (h1 : σ' = ((σ.1.1, σ.1.2.1, sD_when u v, σ.1.2.2.2), σ.2)) : cu Γ σ 41 (.inl (ca Γ 0, 8, .inl v)) σ' := by
  subst h; subst h1; exact cuC (by decide) (by decide) rfl rfl rfl
theorem cu_D_pays {Γ : GC} {σ σ' : GSt} {u : DSt} {v : Nat → Int32} (h : σ.1.2.2.1 = u) (h1 : σ' = ((σ.1.1, σ.1.2.1, sD_pays u v, σ.1.2.2.2), σ.2)) : cu Γ σ 42 (.inl (ca Γ 0, 8, .inl v)) σ' := by
  subst h; subst h1; exact cuC (by decide) (by decide) rfl rfl rfl
theorem cu_D_carries {Γ : GC} {σ σ' : GSt} {u : DSt} {v : Nat → Int32} (h : σ.1.2.2.1 = u) (h1 : σ' = ((σ.1.1, σ.1.2.1, sD_carries u v, σ.1.2.2.2), σ.2)) : cu Γ σ 43 (.inl (ca Γ 0, 8, .inl v)) σ' := by
  subst h; subst h1; exact cuC (by decide) (by decide) rfl rfl rfl
theorem cu_D_staysAway {Γ : GC} {σ σ' : GSt} {u : DSt} {v : Nat → Int32} (h : σ.1.2.2.1 = u) (h1 : σ' = ((σ.1.1, σ.1.2.1, sD_staysAway u v, σ.1.2.2.2), σ.2)) : cu Γ σ 44 (.inl (ca Γ 1, 8, .inl v)) σ' := by
  subst h; subst h1; exact cuC (by decide) (by decide) rfl rfl rfl
theorem cu_D_order {Γ : GC} {σ σ' : GSt} {u : DSt} {v : Nat → Int32} (h : σ.1.2.2.1 = u) (h1 : σ' = ((σ.1.1, σ.1.2.1, sD_order u v, σ.1.2.2.2), σ.2)) : cu Γ σ 45 (.inl (ca Γ 0, 8, .inl v)) σ' := by
  subst h; subst h1; exact cuC (by decide) (by decide) rfl rfl rfl
theorem cu_D_gone {Γ : GC} {σ σ' : GSt} {u : DSt} {v : Nat → Int32} (h : σ.1.2.2.1 = u) (h1 : σ' = ((σ.1.1, σ.1.2.1, sD_gone u v, σ.1.2.2.2), σ.2)) : cu Γ σ 46 (.inl (ca Γ 0, 10, .inl v)) σ' := by
  subst h; subst h1; exact cuC (by decide) (by decide) rfl rfl rfl
theorem cu_D_got {Γ : GC} {σ σ' : GSt} {u : DSt} {v : Nat → Int32} (h : σ.1.2.2.1 = u) (h1 : σ' = ((σ.1.1, σ.1.2.1, sD_got u v, σ.1.2.2.2), σ.2)) : cu Γ σ 47 (.inl (ca Γ 0, 8, .inl v)) σ' := by
  subst h; subst h1; exact cuC (by decide) (by decide) rfl rfl rfl
theorem cu_D_served {Γ : GC} {σ σ' : GSt} {u : DSt} {v : Nat → Int32} (h : σ.1.2.2.1 = u) (h1 : σ' = ((σ.1.1, σ.1.2.1, sD_served u v, σ.1.2.2.2), σ.2)) : cu Γ σ 48 (.inl (ca Γ 0, 8, .inl v)) σ' := by
  subst h; subst h1; exact cuC (by decide) (by decide) rfl rfl rfl
theorem cu_D_left {Γ : GC} {σ σ' : GSt} {u : DSt} {v : Int32} (h : σ.1.2.2.1 = u) (h1 : σ' = ((σ.1.1, σ.1.2.1, sD_left u v, σ.1.2.2.2), σ.2)) : cu Γ σ 40 (.inr (2, (fD Γ u).set 9 (.int v))) σ' := by
  subst h; subst h1; exact cuC (by decide) (by decide) rfl rfl rfl
theorem cu_D_takings {Γ : GC} {σ σ' : GSt} {u : DSt} {v : Int32} (h : σ.1.2.2.1 = u) (h1 : σ' = ((σ.1.1, σ.1.2.1, sD_takings u v, σ.1.2.2.2), σ.2)) : cu Γ σ 40 (.inr (2, (fD Γ u).set 10 (.int v))) σ' := by
  subst h; subst h1; exact cuC (by decide) (by decide) rfl rfl rfl
theorem cu_D_theirTakings {Γ : GC} {σ σ' : GSt} {u : DSt} {v : Int32} (h : σ.1.2.2.1 = u) (h1 : σ' = ((σ.1.1, σ.1.2.1, sD_theirTakings u v, σ.1.2.2.2), σ.2)) : cu Γ σ 40 (.inr (2, (fD Γ u).set 11 (.int v))) σ' := by
  subst h; subst h1; exact cuC (by decide) (by decide) rfl rfl rfl
theorem cl_S {Γ : GC} {σ : GSt} {u : SSt} (h : σ.1.2.2.2.1 = u) : cell Γ σ 56 = .inr (8, fS Γ u) := by subst h; exact cellC_at (by decide) (by decide) rfl
theorem cl_S_mine {Γ : GC} {σ : GSt} {u : SSt} (h : σ.1.2.2.2.1 = u) : cell Γ σ 57 = .inl (ca Γ 0, 121, .inl (pS_mine u)) := by subst h; exact cellC_at (by decide) (by decide) rfl
theorem cl_S_others {Γ : GC} {σ : GSt} {u : SSt} (h : σ.1.2.2.2.1 = u) : cell Γ σ 58 = .inl (ca Γ 0, 121, .inl (pS_others u)) := by subst h; exact cellC_at (by decide) (by decide) rfl
theorem cl_S_mostMine {Γ : GC} {σ : GSt} {u : SSt} (h : σ.1.2.2.2.1 = u) : cell Γ σ 59 = .inl (ca Γ 0, 11, .inl (pS_mostMine u)) := by subst h; exact cellC_at (by decide) (by decide) rfl
theorem cl_S_mostOthers {Γ : GC} {σ : GSt} {u : SSt} (h : σ.1.2.2.2.1 = u) : cell Γ σ 60 = .inl (ca Γ 0, 11, .inl (pS_mostOthers u)) := by subst h; exact cellC_at (by decide) (by decide) rfl
theorem cu_S_mine {Γ : GC} {σ σ' : GSt} {u : SSt} {v : Nat → Int32} (h : σ.1.2.2.2.1 = u) (h1 : σ' = ((σ.1.1, σ.1.2.1, σ.1.2.2.1, sS_mine u v, σ.1.2.2.2.2), σ.2)) : cu Γ σ 57 (.inl (ca Γ 0, 121, .inl v)) σ' := by
  subst h; subst h1; exact cuC (by decide) (by decide) rfl rfl rfl
theorem cu_S_others {Γ : GC} {σ σ' : GSt} {u : SSt} {v : Nat → Int32} (h : σ.1.2.2.2.1 = u) (h1 : σ' = ((σ.1.1, σ.1.2.1, σ.1.2.2.1, sS_others u v, σ.1.2.2.2.2), σ.2)) : cu Γ σ 58 (.inl (ca Γ 0, 121, .inl v)) σ' := by
  subst h; subst h1; exact cuC (by decide) (by decide) rfl rfl rfl
theorem cu_S_mostMine {Γ : GC} {σ σ' : GSt} {u : SSt} {v : Nat → Int32} (h : σ.1.2.2.2.1 = u) (h1 : σ' = ((σ.1.1, σ.1.2.1, σ.1.2.2.1, sS_mostMine u v, σ.1.2.2.2.2), σ.2)) : cu Γ σ 59 (.inl (ca Γ 0, 11, .inl v)) σ' := by
  subst h; subst h1; exact cuC (by decide) (by decide) rfl rfl rfl
theorem cu_S_mostOthers {Γ : GC} {σ σ' : GSt} {u : SSt} {v : Nat → Int32} (h : σ.1.2.2.2.1 = u) (h1 : σ' = ((σ.1.1, σ.1.2.1, σ.1.2.2.1, sS_mostOthers u v, σ.1.2.2.2.2), σ.2)) : cu Γ σ 60 (.inl (ca Γ 0, 11, .inl v)) σ' := by
  subst h; subst h1; exact cuC (by decide) (by decide) rfl rfl rfl
theorem cu_S_rests {Γ : GC} {σ σ' : GSt} {u : SSt} {v : Int32} (h : σ.1.2.2.2.1 = u) (h1 : σ' = ((σ.1.1, σ.1.2.1, σ.1.2.2.1, sS_rests u v, σ.1.2.2.2.2), σ.2)) : cu Γ σ 56 (.inr (8, (fS Γ u).set 4 (.int v))) σ' := by
  subst h; subst h1; exact cuC (by decide) (by decide) rfl rfl rfl
theorem cu_S_firstRest {Γ : GC} {σ σ' : GSt} {u : SSt} {v : Int32} (h : σ.1.2.2.2.1 = u) (h1 : σ' = ((σ.1.1, σ.1.2.1, σ.1.2.2.1, sS_firstRest u v, σ.1.2.2.2.2), σ.2)) : cu Γ σ 56 (.inr (8, (fS Γ u).set 5 (.int v))) σ' := by
  subst h; subst h1; exact cuC (by decide) (by decide) rfl rfl rfl
theorem cl_R {Γ : GC} {σ : GSt} {u : RSt} (h : σ.1.2.2.2.2 = u) : cell Γ σ 61 = .inr (6, fR Γ u) := by subst h; exact cellC_at (by decide) (by decide) rfl
theorem cl_R_bytes {Γ : GC} {σ : GSt} {u : RSt} (h : σ.1.2.2.2.2 = u) : cell Γ σ 62 = .inl (ca Γ 0, 150, .inl (pR_bytes u)) := by subst h; exact cellC_at (by decide) (by decide) rfl
theorem cu_R_bytes {Γ : GC} {σ σ' : GSt} {u : RSt} {v : Nat → Int32} (h : σ.1.2.2.2.2 = u) (h1 : σ' = ((σ.1.1, σ.1.2.1, σ.1.2.2.1, σ.1.2.2.2.1, sR_bytes u v), σ.2)) : cu Γ σ 62 (.inl (ca Γ 0, 150, .inl v)) σ' := by
  subst h; subst h1; exact cuC (by decide) (by decide) rfl rfl rfl
theorem cu_R_length {Γ : GC} {σ σ' : GSt} {u : RSt} {v : Int32} (h : σ.1.2.2.2.2 = u) (h1 : σ' = ((σ.1.1, σ.1.2.1, σ.1.2.2.1, σ.1.2.2.2.1, sR_length u v), σ.2)) : cu Γ σ 61 (.inr (6, (fR Γ u).set 1 (.int v))) σ' := by
  subst h; subst h1; exact cuC (by decide) (by decide) rfl rfl rfl
theorem cu_R_token {Γ : GC} {σ σ' : GSt} {u : RSt} {v : Int32} (h : σ.1.2.2.2.2 = u) (h1 : σ' = ((σ.1.1, σ.1.2.1, σ.1.2.2.1, σ.1.2.2.2.1, sR_token u v), σ.2)) : cu Γ σ 61 (.inr (6, (fR Γ u).set 2 (.int v))) σ' := by
  subst h; subst h1; exact cuC (by decide) (by decide) rfl rfl rfl
theorem cu_R_start {Γ : GC} {σ σ' : GSt} {u : RSt} {v : Int32} (h : σ.1.2.2.2.2 = u) (h1 : σ' = ((σ.1.1, σ.1.2.1, σ.1.2.2.1, σ.1.2.2.2.1, sR_start u v), σ.2)) : cu Γ σ 61 (.inr (6, (fR Γ u).set 3 (.int v))) σ' := by
  subst h; subst h1; exact cuC (by decide) (by decide) rfl rfl rfl
theorem cu_R_next {Γ : GC} {σ σ' : GSt} {u : RSt} {v : Int32} (h : σ.1.2.2.2.2 = u) (h1 : σ' = ((σ.1.1, σ.1.2.1, σ.1.2.2.1, σ.1.2.2.2.1, sR_next u v), σ.2)) : cu Γ σ 61 (.inr (6, (fR Γ u).set 4 (.int v))) σ' := by
  subst h; subst h1; exact cuC (by decide) (by decide) rfl rfl rfl
theorem cu_R_number {Γ : GC} {σ σ' : GSt} {u : RSt} {v : Int32} (h : σ.1.2.2.2.2 = u) (h1 : σ' = ((σ.1.1, σ.1.2.1, σ.1.2.2.1, σ.1.2.2.2.1, sR_number u v), σ.2)) : cu Γ σ 61 (.inr (6, (fR Γ u).set 5 (.int v))) σ' := by
  subst h; subst h1; exact cuC (by decide) (by decide) rfl rfl rfl
theorem cl_H {Γ : GC} {σ : GSt} {u : HSt} (h : σ.1.1 = u) : cell Γ σ 63 = .inr (10, fH Γ u) := by subst h; exact cellC_at (by decide) (by decide) rfl
theorem cl_H_kept {Γ : GC} {σ : GSt} {u : HSt} (h : σ.1.1 = u) : cell Γ σ 65 = .inl (ca Γ 1, 2, .inl (pH_kept u)) := by subst h; exact cellC_at (by decide) (by decide) rfl
theorem cu_H_kept {Γ : GC} {σ σ' : GSt} {u : HSt} {v : Nat → Int32} (h : σ.1.1 = u) (h1 : σ' = ((sH_kept u v, σ.1.2), σ.2)) : cu Γ σ 65 (.inl (ca Γ 1, 2, .inl v)) σ' := by
  subst h; subst h1; exact cuC (by decide) (by decide) rfl rfl rfl
theorem cu_H_above {Γ : GC} {σ σ' : GSt} {u : HSt} {v : Int64} (h : σ.1.1 = u) (h1 : σ' = ((sH_above u v, σ.1.2), σ.2)) : cu Γ σ 63 (.inr (10, (fH Γ u).set 7 (.long v))) σ' := by
  subst h; subst h1; exact cuC (by decide) (by decide) rfl rfl rfl
theorem cu_H_below {Γ : GC} {σ σ' : GSt} {u : HSt} {v : Int64} (h : σ.1.1 = u) (h1 : σ' = ((sH_below u v, σ.1.2), σ.2)) : cu Γ σ 63 (.inr (10, (fH Γ u).set 8 (.long v))) σ' := by
  subst h; subst h1; exact cuC (by decide) (by decide) rfl rfl rfl
theorem cu_H_refusedBad {Γ : GC} {σ σ' : GSt} {u : HSt} {v : Int32} (h : σ.1.1 = u) (h1 : σ' = ((sH_refusedBad u v, σ.1.2), σ.2)) : cu Γ σ 63 (.inr (10, (fH Γ u).set 9 (.int v))) σ' := by
  subst h; subst h1; exact cuC (by decide) (by decide) rfl rfl rfl
theorem cu_H_refusedNo {Γ : GC} {σ σ' : GSt} {u : HSt} {v : Int32} (h : σ.1.1 = u) (h1 : σ' = ((sH_refusedNo u v, σ.1.2), σ.2)) : cu Γ σ 63 (.inr (10, (fH Γ u).set 10 (.int v))) σ' := by
  subst h; subst h1; exact cuC (by decide) (by decide) rfl rfl rfl
theorem cu_H_refusedFull {Γ : GC} {σ σ' : GSt} {u : HSt} {v : Int32} (h : σ.1.1 = u) (h1 : σ' = ((sH_refusedFull u v, σ.1.2), σ.2)) : cu Γ σ 63 (.inr (10, (fH Γ u).set 11 (.int v))) σ' := by
  subst h; subst h1; exact cuC (by decide) (by decide) rfl rfl rfl
theorem cl_L {Γ : GC} {σ : GSt} {u : LSt} (h : σ.2 = u) : cell Γ σ 66 = .inr (11, fL Γ u) := by subst h; exact cellL_at (by decide) rfl
theorem cl_L_w {Γ : GC} {σ : GSt} {u : LSt} (h : σ.2 = u) : cell Γ σ 67 = .inl (ca Γ 0, 608, .inl (pL_w u)) := by subst h; exact cellL_at (by decide) rfl
theorem cl_L_isKept {Γ : GC} {σ : GSt} {u : LSt} (h : σ.2 = u) : cell Γ σ 68 = .inl (ca Γ 1, 2, .inl (pL_isKept u)) := by subst h; exact cellL_at (by decide) rfl
theorem cl_L_text {Γ : GC} {σ : GSt} {u : LSt} (h : σ.2 = u) : cell Γ σ 69 = .inl (ca Γ 0, 150, .inl (pL_text u)) := by subst h; exact cellL_at (by decide) rfl
theorem cl_L_refused {Γ : GC} {σ : GSt} {u : LSt} (h : σ.2 = u) : cell Γ σ 70 = .inl (ca Γ 0, 3, .inl (pL_refused u)) := by subst h; exact cellL_at (by decide) rfl
theorem cl_L_gets {Γ : GC} {σ : GSt} {u : LSt} (h : σ.2 = u) : cell Γ σ 71 = .inl (ca Γ 0, 8, .inl (pL_gets u)) := by subst h; exact cellL_at (by decide) rfl
theorem cl_L_isServed {Γ : GC} {σ : GSt} {u : LSt} (h : σ.2 = u) : cell Γ σ 72 = .inl (ca Γ 1, 8, .inl (pL_isServed u)) := by subst h; exact cellL_at (by decide) rfl
theorem cl_L_goes {Γ : GC} {σ : GSt} {u : LSt} (h : σ.2 = u) : cell Γ σ 73 = .inl (ca Γ 0, 10, .inl (pL_goes u)) := by subst h; exact cellL_at (by decide) rfl
theorem cl_L_aside {Γ : GC} {σ : GSt} {u : LSt} (h : σ.2 = u) : cell Γ σ 74 = .inl (ca Γ 0, 20, .inl (pL_aside u)) := by subst h; exact cellL_at (by decide) rfl
theorem cl_L_own {Γ : GC} {σ : GSt} {u : LSt} (h : σ.2 = u) : cell Γ σ 75 = .inl (ca Γ 0, 121, .inl (pL_own u)) := by subst h; exact cellL_at (by decide) rfl
theorem cl_L_other {Γ : GC} {σ : GSt} {u : LSt} (h : σ.2 = u) : cell Γ σ 76 = .inl (ca Γ 0, 121, .inl (pL_other u)) := by subst h; exact cellL_at (by decide) rfl
theorem cu_L_w {Γ : GC} {σ σ' : GSt} {u : LSt} {v : Nat → Int32} (h : σ.2 = u) (h1 : σ' = (σ.1, sL_w u v)) : cu Γ σ 67 (.inl (ca Γ 0, 608, .inl v)) σ' := by
  subst h; subst h1; exact cuL (by decide) (by decide) rfl rfl
theorem cu_L_isKept {Γ : GC} {σ σ' : GSt} {u : LSt} {v : Nat → Int32} (h : σ.2 = u) (h1 : σ' = (σ.1, sL_isKept u v)) : cu Γ σ 68 (.inl (ca Γ 1, 2, .inl v)) σ' := by
  subst h; subst h1; exact cuL (by decide) (by decide) rfl rfl
theorem cu_L_text {Γ : GC} {σ σ' : GSt} {u : LSt} {v : Nat → Int32} (h : σ.2 = u) (h1 : σ' = (σ.1, sL_text u v)) : cu Γ σ 69 (.inl (ca Γ 0, 150, .inl v)) σ' := by
  subst h; subst h1; exact cuL (by decide) (by decide) rfl rfl
theorem cu_L_texted {Γ : GC} {σ σ' : GSt} {u : LSt} {v : Int32} (h : σ.2 = u) (h1 : σ' = (σ.1, sL_texted u v)) : cu Γ σ 66 (.inr (11, (fL Γ u).set 3 (.int v))) σ' := by
  subst h; subst h1; exact cuL (by decide) (by decide) rfl rfl
theorem cu_L_refused {Γ : GC} {σ σ' : GSt} {u : LSt} {v : Nat → Int32} (h : σ.2 = u) (h1 : σ' = (σ.1, sL_refused u v)) : cu Γ σ 70 (.inl (ca Γ 0, 3, .inl v)) σ' := by
  subst h; subst h1; exact cuL (by decide) (by decide) rfl rfl
theorem cu_L_above {Γ : GC} {σ σ' : GSt} {u : LSt} {v : Int64} (h : σ.2 = u) (h1 : σ' = (σ.1, sL_above u v)) : cu Γ σ 66 (.inr (11, (fL Γ u).set 5 (.long v))) σ' := by
  subst h; subst h1; exact cuL (by decide) (by decide) rfl rfl
theorem cu_L_below {Γ : GC} {σ σ' : GSt} {u : LSt} {v : Int64} (h : σ.2 = u) (h1 : σ' = (σ.1, sL_below u v)) : cu Γ σ 66 (.inr (11, (fL Γ u).set 6 (.long v))) σ' := by
  subst h; subst h1; exact cuL (by decide) (by decide) rfl rfl
theorem cu_L_at {Γ : GC} {σ σ' : GSt} {u : LSt} {v : Int32} (h : σ.2 = u) (h1 : σ' = (σ.1, sL_at u v)) : cu Γ σ 66 (.inr (11, (fL Γ u).set 7 (.int v))) σ' := by
  subst h; subst h1; exact cuL (by decide) (by decide) rfl rfl
theorem cu_L_start {Γ : GC} {σ σ' : GSt} {u : LSt} {v : Int32} (h : σ.2 = u) (h1 : σ' = (σ.1, sL_start u v)) : cu Γ σ 66 (.inr (11, (fL Γ u).set 8 (.int v))) σ' := by
  subst h; subst h1; exact cuL (by decide) (by decide) rfl rfl
theorem cu_L_isWord {Γ : GC} {σ σ' : GSt} {u : LSt} {v : Int32} (h : σ.2 = u) (h1 : σ' = (σ.1, sL_isWord u v)) : cu Γ σ 66 (.inr (11, (fL Γ u).set 9 (.int v))) σ' := by
  subst h; subst h1; exact cuL (by decide) (by decide) rfl rfl
theorem cu_L_isFigures {Γ : GC} {σ σ' : GSt} {u : LSt} {v : Int32} (h : σ.2 = u) (h1 : σ' = (σ.1, sL_isFigures u v)) : cu Γ σ 66 (.inr (11, (fL Γ u).set 10 (.int v))) σ' := by
  subst h; subst h1; exact cuL (by decide) (by decide) rfl rfl
theorem cu_L_value {Γ : GC} {σ σ' : GSt} {u : LSt} {v : Int32} (h : σ.2 = u) (h1 : σ' = (σ.1, sL_value u v)) : cu Γ σ 66 (.inr (11, (fL Γ u).set 11 (.int v))) σ' := by
  subst h; subst h1; exact cuL (by decide) (by decide) rfl rfl
theorem cu_L_comers {Γ : GC} {σ σ' : GSt} {u : LSt} {v : Int32} (h : σ.2 = u) (h1 : σ' = (σ.1, sL_comers u v)) : cu Γ σ 66 (.inr (11, (fL Γ u).set 12 (.int v))) σ' := by
  subst h; subst h1; exact cuL (by decide) (by decide) rfl rfl
theorem cu_L_shouted {Γ : GC} {σ σ' : GSt} {u : LSt} {v : Int32} (h : σ.2 = u) (h1 : σ' = (σ.1, sL_shouted u v)) : cu Γ σ 66 (.inr (11, (fL Γ u).set 13 (.int v))) σ' := by
  subst h; subst h1; exact cuL (by decide) (by decide) rfl rfl
theorem cu_L_gets {Γ : GC} {σ σ' : GSt} {u : LSt} {v : Nat → Int32} (h : σ.2 = u) (h1 : σ' = (σ.1, sL_gets u v)) : cu Γ σ 71 (.inl (ca Γ 0, 8, .inl v)) σ' := by
  subst h; subst h1; exact cuL (by decide) (by decide) rfl rfl
theorem cu_L_isServed {Γ : GC} {σ σ' : GSt} {u : LSt} {v : Nat → Int32} (h : σ.2 = u) (h1 : σ' = (σ.1, sL_isServed u v)) : cu Γ σ 72 (.inl (ca Γ 1, 8, .inl v)) σ' := by
  subst h; subst h1; exact cuL (by decide) (by decide) rfl rfl
theorem cu_L_goes {Γ : GC} {σ σ' : GSt} {u : LSt} {v : Nat → Int32} (h : σ.2 = u) (h1 : σ' = (σ.1, sL_goes u v)) : cu Γ σ 73 (.inl (ca Γ 0, 10, .inl v)) σ' := by
  subst h; subst h1; exact cuL (by decide) (by decide) rfl rfl
theorem cu_L_takings {Γ : GC} {σ σ' : GSt} {u : LSt} {v : Int32} (h : σ.2 = u) (h1 : σ' = (σ.1, sL_takings u v)) : cu Γ σ 66 (.inr (11, (fL Γ u).set 17 (.int v))) σ' := by
  subst h; subst h1; exact cuL (by decide) (by decide) rfl rfl
theorem cu_L_theirTakings {Γ : GC} {σ σ' : GSt} {u : LSt} {v : Int32} (h : σ.2 = u) (h1 : σ' = (σ.1, sL_theirTakings u v)) : cu Γ σ 66 (.inr (11, (fL Γ u).set 18 (.int v))) σ' := by
  subst h; subst h1; exact cuL (by decide) (by decide) rfl rfl
theorem cu_L_left {Γ : GC} {σ σ' : GSt} {u : LSt} {v : Int32} (h : σ.2 = u) (h1 : σ' = (σ.1, sL_left u v)) : cu Γ σ 66 (.inr (11, (fL Γ u).set 19 (.int v))) σ' := by
  subst h; subst h1; exact cuL (by decide) (by decide) rfl rfl
theorem cu_L_aside {Γ : GC} {σ σ' : GSt} {u : LSt} {v : Nat → Int32} (h : σ.2 = u) (h1 : σ' = (σ.1, sL_aside u v)) : cu Γ σ 74 (.inl (ca Γ 0, 20, .inl v)) σ' := by
  subst h; subst h1; exact cuL (by decide) (by decide) rfl rfl
theorem cu_L_own {Γ : GC} {σ σ' : GSt} {u : LSt} {v : Nat → Int32} (h : σ.2 = u) (h1 : σ' = (σ.1, sL_own u v)) : cu Γ σ 75 (.inl (ca Γ 0, 121, .inl v)) σ' := by
  subst h; subst h1; exact cuL (by decide) (by decide) rfl rfl
theorem cu_L_other {Γ : GC} {σ σ' : GSt} {u : LSt} {v : Nat → Int32} (h : σ.2 = u) (h1 : σ' = (σ.1, sL_other u v)) : cu Γ σ 76 (.inl (ca Γ 0, 121, .inl v)) σ' := by
  subst h; subst h1; exact cuL (by decide) (by decide) rfl rfl
theorem cu_L_h {Γ : GC} {σ σ' : GSt} {u : LSt} {v : Int64} (h : σ.2 = u) (h1 : σ' = (σ.1, sL_h u v)) : cu Γ σ 66 (.inr (11, (fL Γ u).set 23 (.long v))) σ' := by
  subst h; subst h1; exact cuL (by decide) (by decide) rfl rfl
theorem eta_M_prices (u : MSt) : sM_prices u (pM_prices u) = u := rfl
theorem eta_M_theirPrices (u : MSt) : sM_theirPrices u (pM_theirPrices u) = u := rfl
theorem eta_M_kinds (u : MSt) : sM_kinds u (pM_kinds u) = u := rfl
theorem eta_M_hours (u : MSt) : sM_hours u (pM_hours u) = u := rfl
theorem eta_M_worths (u : MSt) : sM_worths u (pM_worths u) = u := rfl
theorem eta_M_wants (u : MSt) : sM_wants u (pM_wants u) = u := rfl
theorem eta_M_soldHours (u : MSt) : sM_soldHours u (pM_soldHours u) = u := rfl
theorem eta_M_soldNumbers (u : MSt) : sM_soldNumbers u (pM_soldNumbers u) = u := rfl
theorem eta_M_past (u : MSt) : sM_past u (pM_past u) = u := rfl
theorem eta_D_when (u : DSt) : sD_when u (pD_when u) = u := rfl
theorem eta_D_pays (u : DSt) : sD_pays u (pD_pays u) = u := rfl
theorem eta_D_carries (u : DSt) : sD_carries u (pD_carries u) = u := rfl
theorem eta_D_order (u : DSt) : sD_order u (pD_order u) = u := rfl
theorem eta_D_gone (u : DSt) : sD_gone u (pD_gone u) = u := rfl
theorem eta_D_got (u : DSt) : sD_got u (pD_got u) = u := rfl
theorem eta_D_served (u : DSt) : sD_served u (pD_served u) = u := rfl
theorem eta_S_mine (u : SSt) : sS_mine u (pS_mine u) = u := rfl
theorem eta_S_others (u : SSt) : sS_others u (pS_others u) = u := rfl
theorem eta_S_mostMine (u : SSt) : sS_mostMine u (pS_mostMine u) = u := rfl
theorem eta_S_mostOthers (u : SSt) : sS_mostOthers u (pS_mostOthers u) = u := rfl
theorem ss_M_prices (u : MSt) (z v : Nat → Int32) : sM_prices (sM_prices u z) v = sM_prices u v := rfl
theorem cuf_M_prices {Γ : GC} {σ σ' : GSt} {k : Nat} {mm : MMt} {u : MSt} {z v : Nat → Int32} (hk : k < 4) (h : σ.1.2.1 = setM k mm (sM_prices u z)) (h1 : σ' = ((σ.1.1, setM k mm (sM_prices u v), σ.1.2.2), σ.2)) : cu Γ σ (10 * k + 1) (.inl (ca Γ 0, 10, .inl v)) σ' := cu_M_prices hk h (by rw [ss_M_prices]; exact h1)
theorem ss_M_theirPrices (u : MSt) (z v : Nat → Int32) : sM_theirPrices (sM_theirPrices u z) v = sM_theirPrices u v := rfl
theorem cuf_M_theirPrices {Γ : GC} {σ σ' : GSt} {k : Nat} {mm : MMt} {u : MSt} {z v : Nat → Int32} (hk : k < 4) (h : σ.1.2.1 = setM k mm (sM_theirPrices u z)) (h1 : σ' = ((σ.1.1, setM k mm (sM_theirPrices u v), σ.1.2.2), σ.2)) : cu Γ σ (10 * k + 2) (.inl (ca Γ 0, 10, .inl v)) σ' := cu_M_theirPrices hk h (by rw [ss_M_theirPrices]; exact h1)
theorem ss_M_kinds (u : MSt) (z v : Nat → Int32) : sM_kinds (sM_kinds u z) v = sM_kinds u v := rfl
theorem cuf_M_kinds {Γ : GC} {σ σ' : GSt} {k : Nat} {mm : MMt} {u : MSt} {z v : Nat → Int32} (hk : k < 4) (h : σ.1.2.1 = setM k mm (sM_kinds u z)) (h1 : σ' = ((σ.1.1, setM k mm (sM_kinds u v), σ.1.2.2), σ.2)) : cu Γ σ (10 * k + 3) (.inl (ca Γ 0, 8, .inl v)) σ' := cu_M_kinds hk h (by rw [ss_M_kinds]; exact h1)
theorem ss_M_hours (u : MSt) (z v : Nat → Int32) : sM_hours (sM_hours u z) v = sM_hours u v := rfl
theorem cuf_M_hours {Γ : GC} {σ σ' : GSt} {k : Nat} {mm : MMt} {u : MSt} {z v : Nat → Int32} (hk : k < 4) (h : σ.1.2.1 = setM k mm (sM_hours u z)) (h1 : σ' = ((σ.1.1, setM k mm (sM_hours u v), σ.1.2.2), σ.2)) : cu Γ σ (10 * k + 4) (.inl (ca Γ 0, 8, .inl v)) σ' := cu_M_hours hk h (by rw [ss_M_hours]; exact h1)
theorem ss_M_worths (u : MSt) (z v : Nat → Int32) : sM_worths (sM_worths u z) v = sM_worths u v := rfl
theorem cuf_M_worths {Γ : GC} {σ σ' : GSt} {k : Nat} {mm : MMt} {u : MSt} {z v : Nat → Int32} (hk : k < 4) (h : σ.1.2.1 = setM k mm (sM_worths u z)) (h1 : σ' = ((σ.1.1, setM k mm (sM_worths u v), σ.1.2.2), σ.2)) : cu Γ σ (10 * k + 5) (.inl (ca Γ 0, 8, .inl v)) σ' := cu_M_worths hk h (by rw [ss_M_worths]; exact h1)
theorem ss_M_wants (u : MSt) (z v : Nat → Int32) : sM_wants (sM_wants u z) v = sM_wants u v := rfl
theorem cuf_M_wants {Γ : GC} {σ σ' : GSt} {k : Nat} {mm : MMt} {u : MSt} {z v : Nat → Int32} (hk : k < 4) (h : σ.1.2.1 = setM k mm (sM_wants u z)) (h1 : σ' = ((σ.1.1, setM k mm (sM_wants u v), σ.1.2.2), σ.2)) : cu Γ σ (10 * k + 6) (.inl (ca Γ 0, 8, .inl v)) σ' := cu_M_wants hk h (by rw [ss_M_wants]; exact h1)
theorem ss_M_soldHours (u : MSt) (z v : Nat → Int32) : sM_soldHours (sM_soldHours u z) v = sM_soldHours u v := rfl
theorem cuf_M_soldHours {Γ : GC} {σ σ' : GSt} {k : Nat} {mm : MMt} {u : MSt} {z v : Nat → Int32} (hk : k < 4) (h : σ.1.2.1 = setM k mm (sM_soldHours u z)) (h1 : σ' = ((σ.1.1, setM k mm (sM_soldHours u v), σ.1.2.2), σ.2)) : cu Γ σ (10 * k + 7) (.inl (ca Γ 0, 6, .inl v)) σ' := cu_M_soldHours hk h (by rw [ss_M_soldHours]; exact h1)
theorem ss_M_soldNumbers (u : MSt) (z v : Nat → Int32) : sM_soldNumbers (sM_soldNumbers u z) v = sM_soldNumbers u v := rfl
theorem cuf_M_soldNumbers {Γ : GC} {σ σ' : GSt} {k : Nat} {mm : MMt} {u : MSt} {z v : Nat → Int32} (hk : k < 4) (h : σ.1.2.1 = setM k mm (sM_soldNumbers u z)) (h1 : σ' = ((σ.1.1, setM k mm (sM_soldNumbers u v), σ.1.2.2), σ.2)) : cu Γ σ (10 * k + 8) (.inl (ca Γ 0, 6, .inl v)) σ' := cu_M_soldNumbers hk h (by rw [ss_M_soldNumbers]; exact h1)
theorem ss_M_past (u : MSt) (z v : Nat → Int32) : sM_past (sM_past u z) v = sM_past u v := rfl
theorem cuf_M_past {Γ : GC} {σ σ' : GSt} {k : Nat} {mm : MMt} {u : MSt} {z v : Nat → Int32} (hk : k < 4) (h : σ.1.2.1 = setM k mm (sM_past u z)) (h1 : σ' = ((σ.1.1, setM k mm (sM_past u v), σ.1.2.2), σ.2)) : cu Γ σ (10 * k + 9) (.inl (ca Γ 0, 80, .inl v)) σ' := cu_M_past hk h (by rw [ss_M_past]; exact h1)
theorem ss_D_when (u : DSt) (z v : Nat → Int32) : sD_when (sD_when u z) v = sD_when u v := rfl
theorem cuf_D_when {Γ : GC} {σ σ' : GSt} {u : DSt} {z v : Nat → Int32} (h : σ.1.2.2.1 = sD_when u z) (h1 : σ' = ((σ.1.1, σ.1.2.1, sD_when u v, σ.1.2.2.2), σ.2)) : cu Γ σ 41 (.inl (ca Γ 0, 8, .inl v)) σ' := cu_D_when h (by rw [ss_D_when]; exact h1)
theorem ss_D_pays (u : DSt) (z v : Nat → Int32) : sD_pays (sD_pays u z) v = sD_pays u v := rfl
theorem cuf_D_pays {Γ : GC} {σ σ' : GSt} {u : DSt} {z v : Nat → Int32} (h : σ.1.2.2.1 = sD_pays u z) (h1 : σ' = ((σ.1.1, σ.1.2.1, sD_pays u v, σ.1.2.2.2), σ.2)) : cu Γ σ 42 (.inl (ca Γ 0, 8, .inl v)) σ' := cu_D_pays h (by rw [ss_D_pays]; exact h1)
theorem ss_D_carries (u : DSt) (z v : Nat → Int32) : sD_carries (sD_carries u z) v = sD_carries u v := rfl
theorem cuf_D_carries {Γ : GC} {σ σ' : GSt} {u : DSt} {z v : Nat → Int32} (h : σ.1.2.2.1 = sD_carries u z) (h1 : σ' = ((σ.1.1, σ.1.2.1, sD_carries u v, σ.1.2.2.2), σ.2)) : cu Γ σ 43 (.inl (ca Γ 0, 8, .inl v)) σ' := cu_D_carries h (by rw [ss_D_carries]; exact h1)
theorem ss_D_order (u : DSt) (z v : Nat → Int32) : sD_order (sD_order u z) v = sD_order u v := rfl
theorem cuf_D_order {Γ : GC} {σ σ' : GSt} {u : DSt} {z v : Nat → Int32} (h : σ.1.2.2.1 = sD_order u z) (h1 : σ' = ((σ.1.1, σ.1.2.1, sD_order u v, σ.1.2.2.2), σ.2)) : cu Γ σ 45 (.inl (ca Γ 0, 8, .inl v)) σ' := cu_D_order h (by rw [ss_D_order]; exact h1)
theorem ss_D_gone (u : DSt) (z v : Nat → Int32) : sD_gone (sD_gone u z) v = sD_gone u v := rfl
theorem cuf_D_gone {Γ : GC} {σ σ' : GSt} {u : DSt} {z v : Nat → Int32} (h : σ.1.2.2.1 = sD_gone u z) (h1 : σ' = ((σ.1.1, σ.1.2.1, sD_gone u v, σ.1.2.2.2), σ.2)) : cu Γ σ 46 (.inl (ca Γ 0, 10, .inl v)) σ' := cu_D_gone h (by rw [ss_D_gone]; exact h1)
theorem ss_D_got (u : DSt) (z v : Nat → Int32) : sD_got (sD_got u z) v = sD_got u v := rfl
theorem cuf_D_got {Γ : GC} {σ σ' : GSt} {u : DSt} {z v : Nat → Int32} (h : σ.1.2.2.1 = sD_got u z) (h1 : σ' = ((σ.1.1, σ.1.2.1, sD_got u v, σ.1.2.2.2), σ.2)) : cu Γ σ 47 (.inl (ca Γ 0, 8, .inl v)) σ' := cu_D_got h (by rw [ss_D_got]; exact h1)
theorem ss_D_served (u : DSt) (z v : Nat → Int32) : sD_served (sD_served u z) v = sD_served u v := rfl
theorem cuf_D_served {Γ : GC} {σ σ' : GSt} {u : DSt} {z v : Nat → Int32} (h : σ.1.2.2.1 = sD_served u z) (h1 : σ' = ((σ.1.1, σ.1.2.1, sD_served u v, σ.1.2.2.2), σ.2)) : cu Γ σ 48 (.inl (ca Γ 0, 8, .inl v)) σ' := cu_D_served h (by rw [ss_D_served]; exact h1)
theorem ss_S_mine (u : SSt) (z v : Nat → Int32) : sS_mine (sS_mine u z) v = sS_mine u v := rfl
theorem cuf_S_mine {Γ : GC} {σ σ' : GSt} {u : SSt} {z v : Nat → Int32} (h : σ.1.2.2.2.1 = sS_mine u z) (h1 : σ' = ((σ.1.1, σ.1.2.1, σ.1.2.2.1, sS_mine u v, σ.1.2.2.2.2), σ.2)) : cu Γ σ 57 (.inl (ca Γ 0, 121, .inl v)) σ' := cu_S_mine h (by rw [ss_S_mine]; exact h1)
theorem ss_S_others (u : SSt) (z v : Nat → Int32) : sS_others (sS_others u z) v = sS_others u v := rfl
theorem cuf_S_others {Γ : GC} {σ σ' : GSt} {u : SSt} {z v : Nat → Int32} (h : σ.1.2.2.2.1 = sS_others u z) (h1 : σ' = ((σ.1.1, σ.1.2.1, σ.1.2.2.1, sS_others u v, σ.1.2.2.2.2), σ.2)) : cu Γ σ 58 (.inl (ca Γ 0, 121, .inl v)) σ' := cu_S_others h (by rw [ss_S_others]; exact h1)
theorem ss_S_mostMine (u : SSt) (z v : Nat → Int32) : sS_mostMine (sS_mostMine u z) v = sS_mostMine u v := rfl
theorem cuf_S_mostMine {Γ : GC} {σ σ' : GSt} {u : SSt} {z v : Nat → Int32} (h : σ.1.2.2.2.1 = sS_mostMine u z) (h1 : σ' = ((σ.1.1, σ.1.2.1, σ.1.2.2.1, sS_mostMine u v, σ.1.2.2.2.2), σ.2)) : cu Γ σ 59 (.inl (ca Γ 0, 11, .inl v)) σ' := cu_S_mostMine h (by rw [ss_S_mostMine]; exact h1)
theorem ss_S_mostOthers (u : SSt) (z v : Nat → Int32) : sS_mostOthers (sS_mostOthers u z) v = sS_mostOthers u v := rfl
theorem cuf_S_mostOthers {Γ : GC} {σ σ' : GSt} {u : SSt} {z v : Nat → Int32} (h : σ.1.2.2.2.1 = sS_mostOthers u z) (h1 : σ' = ((σ.1.1, σ.1.2.1, σ.1.2.2.1, sS_mostOthers u v, σ.1.2.2.2.2), σ.2)) : cu Γ σ 60 (.inl (ca Γ 0, 11, .inl v)) σ' := cu_S_mostOthers h (by rw [ss_S_mostOthers]; exact h1)
theorem cl_ways {Γ : GC} {σ : GSt} : cell Γ σ 49 = .inl (ca Γ 2, 6, .inr (.inr (.inr (.inr (fun j => some (ad Γ (50 + j))))))) := cellC_at (by decide) (by decide) rfl
theorem cl_images {Γ : GC} {σ : GSt} : cell Γ σ 64 = .inl (ca Γ 3, 2, .inr (.inr (.inr (.inr (fun j => some (ad Γ (10 * (2 + j)))))))) := cellC_at (by decide) (by decide) rfl
theorem cl_way0 {Γ : GC} {σ : GSt} : cell Γ σ 50 = .inr (5, []) := cellC_at (by decide) (by decide) rfl
theorem cl_way1 {Γ : GC} {σ : GSt} : cell Γ σ 51 = .inr (9, []) := cellC_at (by decide) (by decide) rfl
theorem cl_way2 {Γ : GC} {σ : GSt} : cell Γ σ 52 = .inr (1, []) := cellC_at (by decide) (by decide) rfl
theorem cl_way3 {Γ : GC} {σ : GSt} : cell Γ σ 53 = .inr (7, []) := cellC_at (by decide) (by decide) rfl
theorem cl_way4 {Γ : GC} {σ : GSt} : cell Γ σ 54 = .inr (0, []) := cellC_at (by decide) (by decide) rfl
theorem cl_way5 {Γ : GC} {σ : GSt} : cell Γ σ 55 = .inr (4, []) := cellC_at (by decide) (by decide) rfl
