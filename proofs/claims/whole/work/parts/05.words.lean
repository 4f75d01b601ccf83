theorem gw_0 : Cond.selects "CurvePaths$Path" ({ cls := "CurvePaths$Path", name := "addPart", desc := "(II)V" }) ({ cls := "CurvePaths$Path", name := "addPart", desc := "(II)V" }) ∈ gw := gw_in 0 rfl rfl
theorem gw_1 : Cond.selects "CurvePaths$Path" ({ cls := "CurvePaths$Path", name := "addPoint", desc := "(II)V" }) ({ cls := "CurvePaths$Path", name := "addPoint", desc := "(II)V" }) ∈ gw := gw_in 1 rfl rfl
theorem gw_2 : Cond.selects "CurvePaths$Arc" ({ cls := "CurvePaths$Arc", name := "takePart", desc := "(JII)V" }) ({ cls := "CurvePaths$Arc", name := "takePart", desc := "(JII)V" }) ∈ gw := gw_in 2 rfl rfl
theorem gw_3 : Cond.selects "CurvePaths$Arc" ({ cls := "CurvePaths$Arc", name := "takeQuarter", desc := "(J)V" }) ({ cls := "CurvePaths$Arc", name := "takeQuarter", desc := "(J)V" }) ∈ gw := gw_in 3 rfl rfl
theorem gw_4 : Cond.selects "CurvePaths$Arc" ({ cls := "CurvePaths$Arc", name := "turnQuarter", desc := "()V" }) ({ cls := "CurvePaths$Arc", name := "turnQuarter", desc := "()V" }) ∈ gw := gw_in 4 rfl rfl
theorem gw_5 : Cond.selects "CurvePaths$Arc" ({ cls := "CurvePaths$Arc", name := "keepBefore", desc := "(I)V" }) ({ cls := "CurvePaths$Arc", name := "keepBefore", desc := "(I)V" }) ∈ gw := gw_in 5 rfl rfl
theorem gw_6 : Cond.selects "CurvePaths$Arc" ({ cls := "CurvePaths$Arc", name := "keepBehind", desc := "(I)V" }) ({ cls := "CurvePaths$Arc", name := "keepBehind", desc := "(I)V" }) ∈ gw := gw_in 6 rfl rfl
theorem gw_7 : Cond.selects "CurvePaths$Arc" ({ cls := "CurvePaths$Arc", name := "addTaken", desc := "()V" }) ({ cls := "CurvePaths$Arc", name := "addTaken", desc := "()V" }) ∈ gw := gw_in 7 rfl rfl
theorem gw_8 : Cond.selects "CurvePaths$Arc" ({ cls := "CurvePaths$Arc", name := "addPoint", desc := "(II)V" }) ({ cls := "CurvePaths$Arc", name := "addPoint", desc := "(II)V" }) ∈ gw := gw_in 8 rfl rfl
theorem gw_9 : Cond.selects "CurvePaths" ({ cls := "CurvePaths", name := "addSweep", desc := "()I" }) ({ cls := "CurvePaths", name := "addSweep", desc := "()I" }) ∈ gw := gw_in 9 rfl rfl
theorem gw_10 : Cond.selects "CurvePaths$Path" ({ cls := "CurvePaths$Path", name := "turnSubpath", desc := "(II)V" }) ({ cls := "CurvePaths$Path", name := "turnSubpath", desc := "(II)V" }) ∈ gw := gw_in 10 rfl rfl
theorem gw_11 : Cond.selects "CurvePaths" ({ cls := "CurvePaths", name := "addFlattened", desc := "(II)Z" }) ({ cls := "CurvePaths", name := "addFlattened", desc := "(II)Z" }) ∈ gw := gw_in 11 rfl rfl
theorem gw_12 : Cond.selects "CurvePaths$Halving" ({ cls := "CurvePaths$Halving", name := "isFlat", desc := "(II)Z" }) ({ cls := "CurvePaths$Halving", name := "isFlat", desc := "(II)Z" }) ∈ gw := gw_in 12 rfl rfl
theorem gw_13 : Cond.selects "CurvePaths$Halving" ({ cls := "CurvePaths$Halving", name := "isFlatAlong", desc := "(II)Z" }) ({ cls := "CurvePaths$Halving", name := "isFlatAlong", desc := "(II)Z" }) ∈ gw := gw_in 13 rfl rfl
theorem gw_14 : Cond.selects "CurvePaths$Halving" ({ cls := "CurvePaths$Halving", name := "isStraight", desc := "(II)Z" }) ({ cls := "CurvePaths$Halving", name := "isStraight", desc := "(II)Z" }) ∈ gw := gw_in 14 rfl rfl
theorem gw_15 : Cond.selects "CurvePaths$Halving" ({ cls := "CurvePaths$Halving", name := "halve", desc := "(I)V" }) ({ cls := "CurvePaths$Halving", name := "halve", desc := "(I)V" }) ∈ gw := gw_in 15 rfl rfl
theorem gw_16 : Cond.selects "CurvePaths$Halving" ({ cls := "CurvePaths$Halving", name := "halveAlong", desc := "(I)V" }) ({ cls := "CurvePaths$Halving", name := "halveAlong", desc := "(I)V" }) ∈ gw := gw_in 16 rfl rfl
theorem gw_17 : Cond.selects "CurvePaths$Halving" ({ cls := "CurvePaths$Halving", name := "setPiece", desc := "(IIIII)V" }) ({ cls := "CurvePaths$Halving", name := "setPiece", desc := "(IIIII)V" }) ∈ gw := gw_in 17 rfl rfl
theorem gw_18 : Cond.selects "CurvePathsModel" ({ cls := "CurvePathsModel", name := "settle", desc := "()I" }) ({ cls := "CurvePathsModel", name := "settle", desc := "()I" }) ∈ gw := gw_in 18 rfl rfl
theorem gw_19 : Cond.selects "CurvePathsModel" ({ cls := "CurvePathsModel", name := "addArc", desc := "(JJJJZ)V" }) ({ cls := "CurvePathsModel", name := "addArc", desc := "(JJJJZ)V" }) ∈ gw := gw_in 19 rfl rfl
theorem gw_20 : Cond.selects "CurvePathsModel" ({ cls := "CurvePathsModel", name := "quarter", desc := "(J)V" }) ({ cls := "CurvePathsModel", name := "quarter", desc := "(J)V" }) ∈ gw := gw_in 20 rfl rfl
theorem gw_21 : Cond.selects "CurvePathsModel" ({ cls := "CurvePathsModel", name := "cut", desc := "(JJ)V" }) ({ cls := "CurvePathsModel", name := "cut", desc := "(JJ)V" }) ∈ gw := gw_in 21 rfl rfl
theorem gw_22 : Cond.selects "CurvePathsModel" ({ cls := "CurvePathsModel", name := "part", desc := "(J)V" }) ({ cls := "CurvePathsModel", name := "part", desc := "(J)V" }) ∈ gw := gw_in 22 rfl rfl
theorem gw_23 : Cond.selects "CurvePathsModel" ({ cls := "CurvePathsModel", name := "beginArc", desc := "(JJJJ)V" }) ({ cls := "CurvePathsModel", name := "beginArc", desc := "(JJJJ)V" }) ∈ gw := gw_in 23 rfl rfl
theorem gw_24 : Cond.selects "CurvePathsModel" ({ cls := "CurvePathsModel", name := "around", desc := "(JJJI)J" }) ({ cls := "CurvePathsModel", name := "around", desc := "(JJJI)J" }) ∈ gw := gw_in 24 rfl rfl
theorem gw_25 : Cond.selects "CurvePathsModel" ({ cls := "CurvePathsModel", name := "addCurve", desc := "(JJZ)V" }) ({ cls := "CurvePathsModel", name := "addCurve", desc := "(JJZ)V" }) ∈ gw := gw_in 25 rfl rfl
theorem gw_26 : Cond.selects "CurvePathsModel" ({ cls := "CurvePathsModel", name := "turn", desc := "(II)V" }) ({ cls := "CurvePathsModel", name := "turn", desc := "(II)V" }) ∈ gw := gw_in 26 rfl rfl
set_option maxRecDepth 20000 in
theorem gw_27 : Cond.initialized "CurvePathsLaw" ∈ gw := gw_in 27 rfl rfl
set_option maxRecDepth 20000 in
theorem gw_28 : Cond.initialized "CurvePaths" ∈ gw := gw_in 28 rfl rfl
set_option maxRecDepth 20000 in
theorem gw_29 : Cond.initialized "CurvePaths$Axes" ∈ gw := gw_in 29 rfl rfl
set_option maxRecDepth 20000 in
theorem gw_30 : Cond.initialized "CurvePaths$Arc" ∈ gw := gw_in 30 rfl rfl
set_option maxRecDepth 20000 in
theorem gw_31 : Cond.initialized "CurvePaths$Halving" ∈ gw := gw_in 31 rfl rfl
set_option maxRecDepth 20000 in
theorem gw_32 : Cond.initialized "CurvePaths$Path" ∈ gw := gw_in 32 rfl rfl
set_option maxRecDepth 20000 in
theorem gw_33 : Cond.initialized "CurvePathsModel" ∈ gw := gw_in 33 rfl rfl
set_option maxRecDepth 20000 in
theorem gw_34 : Cond.initialized "CurvePathsModel$Path" ∈ gw := gw_in 34 rfl rfl
set_option maxRecDepth 20000 in
theorem gw_35 : Cond.initialized "java/lang/Math" ∈ gw := gw_in 35 rfl rfl
set_option maxRecDepth 20000 in
theorem gw_36 : Cond.classLink "CurvePathsLaw" (7) "CurvePaths" ∈ gw := gw_in 36 rfl rfl
set_option maxRecDepth 20000 in
theorem gw_37 : Cond.instantiable "CurvePaths" (5) ∈ gw := gw_in 37 rfl rfl
set_option maxRecDepth 20000 in
theorem gw_38 : Cond.methodLink "CurvePathsLaw" (9) ({ cls := "CurvePaths", name := "<init>", desc := "()V" }) ∈ gw := gw_in 38 rfl rfl
set_option maxRecDepth 20000 in
theorem gw_39 : Cond.instanceMethod ({ cls := "CurvePaths", name := "<init>", desc := "()V" }) ∈ gw := gw_in 39 rfl rfl
set_option maxRecDepth 20000 in
theorem gw_40 : Cond.code ({ cls := "CurvePaths", name := "<init>", desc := "()V" }) prog_1_method_1_code (1) (Option.none : Option Jvm.ClassFile.FieldType) ∈ gw := gw_in 40 rfl rfl
set_option maxRecDepth 20000 in
theorem gw_41 : Cond.methodLink "CurvePaths" (3) ({ cls := "java/lang/Object", name := "<init>", desc := "()V" }) ∈ gw := gw_in 41 rfl rfl
set_option maxRecDepth 20000 in
theorem gw_42 : Cond.instanceMethod ({ cls := "java/lang/Object", name := "<init>", desc := "()V" }) ∈ gw := gw_in 42 rfl rfl
set_option maxRecDepth 20000 in
theorem gw_43 : Cond.code ({ cls := "java/lang/Object", name := "<init>", desc := "()V" }) object_method_1_code (1) (Option.none : Option Jvm.ClassFile.FieldType) ∈ gw := gw_in 43 rfl rfl
set_option maxRecDepth 20000 in
theorem gw_44 : Cond.classLink "CurvePaths" (9) "CurvePaths$Axes" ∈ gw := gw_in 44 rfl rfl
set_option maxRecDepth 20000 in
theorem gw_45 : Cond.instantiable "CurvePaths$Axes" (4) ∈ gw := gw_in 45 rfl rfl
set_option maxRecDepth 20000 in
theorem gw_47 : Cond.instanceMethod ({ cls := "CurvePaths$Axes", name := "<init>", desc := "()V" }) ∈ gw := gw_in 47 rfl rfl
set_option maxRecDepth 20000 in
theorem gw_48 : Cond.code ({ cls := "CurvePaths$Axes", name := "<init>", desc := "()V" }) prog_3_method_1_code (1) (Option.none : Option Jvm.ClassFile.FieldType) ∈ gw := gw_in 48 rfl rfl
set_option maxRecDepth 20000 in
theorem gw_49 : Cond.methodLink "CurvePaths$Axes" (3) ({ cls := "java/lang/Object", name := "<init>", desc := "()V" }) ∈ gw := gw_in 49 rfl rfl
set_option maxRecDepth 20000 in
theorem gw_50 : Cond.fieldLink "CurvePaths$Axes" (9) "CurvePaths$Axes" "p" "J" ∈ gw := gw_in 50 rfl rfl
set_option maxRecDepth 20000 in
theorem gw_51 : Cond.fieldLink "CurvePaths$Axes" (15) "CurvePaths$Axes" "q" "J" ∈ gw := gw_in 51 rfl rfl
set_option maxRecDepth 20000 in
theorem gw_52 : Cond.fieldLink "CurvePaths$Axes" (18) "CurvePaths$Axes" "\x72" "J" ∈ gw := gw_in 52 rfl rfl
set_option maxRecDepth 20000 in
theorem gw_53 : Cond.fieldLink "CurvePaths$Axes" (21) "CurvePaths$Axes" "s" "J" ∈ gw := gw_in 53 rfl rfl
set_option maxRecDepth 20000 in
theorem gw_63 : Cond.classLink "CurvePaths" (16) "CurvePaths$Arc" ∈ gw := gw_in 63 rfl rfl
set_option maxRecDepth 20000 in
theorem gw_64 : Cond.instantiable "CurvePaths$Arc" (5) ∈ gw := gw_in 64 rfl rfl
set_option maxRecDepth 20000 in
theorem gw_66 : Cond.instanceMethod ({ cls := "CurvePaths$Arc", name := "<init>", desc := "()V" }) ∈ gw := gw_in 66 rfl rfl
set_option maxRecDepth 20000 in
theorem gw_67 : Cond.code ({ cls := "CurvePaths$Arc", name := "<init>", desc := "()V" }) prog_2_method_1_code (1) (Option.none : Option Jvm.ClassFile.FieldType) ∈ gw := gw_in 67 rfl rfl
set_option maxRecDepth 20000 in
theorem gw_68 : Cond.methodLink "CurvePaths$Arc" (5) ({ cls := "java/lang/Object", name := "<init>", desc := "()V" }) ∈ gw := gw_in 68 rfl rfl
set_option maxRecDepth 20000 in
theorem gw_69 : Cond.fieldLink "CurvePaths$Arc" (11) "CurvePaths$Arc" "xs" "[I" ∈ gw := gw_in 69 rfl rfl
set_option maxRecDepth 20000 in
theorem gw_70 : Cond.fieldLink "CurvePaths" (178) "CurvePaths$Arc" "xs" "[I" ∈ gw := gw_in 70 rfl rfl
set_option maxRecDepth 20000 in
theorem gw_71 : Cond.fieldLink "CurvePaths$Arc" (15) "CurvePaths$Arc" "ys" "[I" ∈ gw := gw_in 71 rfl rfl
set_option maxRecDepth 20000 in
theorem gw_72 : Cond.fieldLink "CurvePaths" (179) "CurvePaths$Arc" "ys" "[I" ∈ gw := gw_in 72 rfl rfl
set_option maxRecDepth 20000 in
theorem gw_73 : Cond.fieldLink "CurvePaths$Arc" (18) "CurvePaths$Arc" "as" "[I" ∈ gw := gw_in 73 rfl rfl
set_option maxRecDepth 20000 in
theorem gw_74 : Cond.fieldLink "CurvePaths$Arc" (21) "CurvePaths$Arc" "bs" "[I" ∈ gw := gw_in 74 rfl rfl
set_option maxRecDepth 20000 in
theorem gw_75 : Cond.fieldLink "CurvePaths$Arc" (24) "CurvePaths$Arc" "pointCount" "I" ∈ gw := gw_in 75 rfl rfl
set_option maxRecDepth 20000 in
theorem gw_87 : Cond.arrayClass Jvm.ClassFile.FieldType.int ∈ gw := gw_in 87 rfl rfl
set_option maxRecDepth 20000 in
theorem gw_88 : Cond.classLink "CurvePaths" (23) "CurvePaths$Halving" ∈ gw := gw_in 88 rfl rfl
set_option maxRecDepth 20000 in
theorem gw_89 : Cond.instantiable "CurvePaths$Halving" (2) ∈ gw := gw_in 89 rfl rfl
set_option maxRecDepth 20000 in
theorem gw_91 : Cond.instanceMethod ({ cls := "CurvePaths$Halving", name := "<init>", desc := "()V" }) ∈ gw := gw_in 91 rfl rfl
set_option maxRecDepth 20000 in
theorem gw_92 : Cond.code ({ cls := "CurvePaths$Halving", name := "<init>", desc := "()V" }) prog_4_method_1_code (1) (Option.none : Option Jvm.ClassFile.FieldType) ∈ gw := gw_in 92 rfl rfl
set_option maxRecDepth 20000 in
theorem gw_93 : Cond.methodLink "CurvePaths$Halving" (1) ({ cls := "java/lang/Object", name := "<init>", desc := "()V" }) ∈ gw := gw_in 93 rfl rfl
set_option maxRecDepth 20000 in
theorem gw_94 : Cond.fieldLink "CurvePaths$Halving" (9) "CurvePaths$Halving" "pieces" "[I" ∈ gw := gw_in 94 rfl rfl
set_option maxRecDepth 20000 in
theorem gw_95 : Cond.fieldLink "CurvePaths$Halving" (13) "CurvePaths$Halving" "halvings" "[I" ∈ gw := gw_in 95 rfl rfl
set_option maxRecDepth 20000 in
theorem gw_101 : Cond.classLink "CurvePaths" (30) "CurvePaths$Path" ∈ gw := gw_in 101 rfl rfl
set_option maxRecDepth 20000 in
theorem gw_102 : Cond.instantiable "CurvePaths$Path" (7) ∈ gw := gw_in 102 rfl rfl
set_option maxRecDepth 20000 in
theorem gw_104 : Cond.instanceMethod ({ cls := "CurvePaths$Path", name := "<init>", desc := "()V" }) ∈ gw := gw_in 104 rfl rfl
set_option maxRecDepth 20000 in
theorem gw_105 : Cond.code ({ cls := "CurvePaths$Path", name := "<init>", desc := "()V" }) prog_5_method_1_code (1) (Option.none : Option Jvm.ClassFile.FieldType) ∈ gw := gw_in 105 rfl rfl
set_option maxRecDepth 20000 in
theorem gw_106 : Cond.methodLink "CurvePaths$Path" (3) ({ cls := "java/lang/Object", name := "<init>", desc := "()V" }) ∈ gw := gw_in 106 rfl rfl
set_option maxRecDepth 20000 in
theorem gw_107 : Cond.fieldLink "CurvePaths$Path" (9) "CurvePaths$Path" "kinds" "[I" ∈ gw := gw_in 107 rfl rfl
set_option maxRecDepth 20000 in
theorem gw_108 : Cond.fieldLink "CurvePaths" (151) "CurvePaths$Path" "kinds" "[I" ∈ gw := gw_in 108 rfl rfl
set_option maxRecDepth 20000 in
theorem gw_109 : Cond.fieldLink "CurvePaths$Path" (15) "CurvePaths$Path" "firsts" "[I" ∈ gw := gw_in 109 rfl rfl
set_option maxRecDepth 20000 in
theorem gw_110 : Cond.fieldLink "CurvePaths" (162) "CurvePaths$Path" "firsts" "[I" ∈ gw := gw_in 110 rfl rfl
set_option maxRecDepth 20000 in
theorem gw_111 : Cond.fieldLink "CurvePaths$Path" (18) "CurvePaths$Path" "xs" "[I" ∈ gw := gw_in 111 rfl rfl
set_option maxRecDepth 20000 in
theorem gw_112 : Cond.fieldLink "CurvePaths$Halving" (28) "CurvePaths$Path" "xs" "[I" ∈ gw := gw_in 112 rfl rfl
set_option maxRecDepth 20000 in
theorem gw_113 : Cond.fieldLink "CurvePaths" (119) "CurvePaths$Path" "xs" "[I" ∈ gw := gw_in 113 rfl rfl
set_option maxRecDepth 20000 in
theorem gw_114 : Cond.fieldLink "CurvePaths$Path" (21) "CurvePaths$Path" "ys" "[I" ∈ gw := gw_in 114 rfl rfl
set_option maxRecDepth 20000 in
theorem gw_115 : Cond.fieldLink "CurvePaths$Halving" (31) "CurvePaths$Path" "ys" "[I" ∈ gw := gw_in 115 rfl rfl
set_option maxRecDepth 20000 in
theorem gw_116 : Cond.fieldLink "CurvePaths" (130) "CurvePaths$Path" "ys" "[I" ∈ gw := gw_in 116 rfl rfl
set_option maxRecDepth 20000 in
theorem gw_117 : Cond.fieldLink "CurvePaths$Path" (24) "CurvePaths$Path" "partCount" "I" ∈ gw := gw_in 117 rfl rfl
set_option maxRecDepth 20000 in
theorem gw_118 : Cond.fieldLink "CurvePaths" (52) "CurvePaths$Path" "partCount" "I" ∈ gw := gw_in 118 rfl rfl
set_option maxRecDepth 20000 in
theorem gw_119 : Cond.fieldLink "CurvePaths$Halving" (22) "CurvePaths$Path" "pointCount" "I" ∈ gw := gw_in 119 rfl rfl
set_option maxRecDepth 20000 in
theorem gw_120 : Cond.fieldLink "CurvePaths" (123) "CurvePaths$Path" "pointCount" "I" ∈ gw := gw_in 120 rfl rfl
set_option maxRecDepth 20000 in
theorem gw_121 : Cond.fieldLink "CurvePaths$Path" (40) "CurvePaths$Path" "pointCount" "I" ∈ gw := gw_in 121 rfl rfl
set_option maxRecDepth 20000 in
theorem gw_122 : Cond.fieldLink "CurvePaths$Path" (43) "CurvePaths$Path" "begunAt" "I" ∈ gw := gw_in 122 rfl rfl
set_option maxRecDepth 20000 in
theorem gw_138 : Cond.fieldLink "CurvePaths" (12) "CurvePaths" "directions" "LCurvePaths$Axes;" ∈ gw := gw_in 138 rfl rfl
set_option maxRecDepth 20000 in
theorem gw_139 : Cond.fieldLink "CurvePaths" (19) "CurvePaths" "sweep" "LCurvePaths$Arc;" ∈ gw := gw_in 139 rfl rfl
set_option maxRecDepth 20000 in
theorem gw_140 : Cond.fieldLink "CurvePaths" (26) "CurvePaths" "halving" "LCurvePaths$Halving;" ∈ gw := gw_in 140 rfl rfl
set_option maxRecDepth 20000 in
theorem gw_141 : Cond.fieldLink "CurvePaths" (33) "CurvePaths" "path" "LCurvePaths$Path;" ∈ gw := gw_in 141 rfl rfl
set_option maxRecDepth 20000 in
theorem gw_142 : Cond.fieldLink "CurvePaths" (37) "CurvePaths" "spare" "LCurvePaths$Path;" ∈ gw := gw_in 142 rfl rfl
set_option maxRecDepth 20000 in
theorem gw_154 : Cond.methodLink "CurvePathsLaw" (13) ({ cls := "CurvePaths", name := "move", desc := "(II)I" }) ∈ gw := gw_in 154 rfl rfl
set_option maxRecDepth 20000 in
theorem gw_155 : Cond.instanceMethod ({ cls := "CurvePaths", name := "move", desc := "(II)I" }) ∈ gw := gw_in 155 rfl rfl
set_option maxRecDepth 20000 in
theorem gw_156 : Cond.selects "CurvePaths" ({ cls := "CurvePaths", name := "move", desc := "(II)I" }) ({ cls := "CurvePaths", name := "move", desc := "(II)I" }) ∈ gw := gw_in 156 rfl rfl
set_option maxRecDepth 20000 in
theorem gw_157 : Cond.code ({ cls := "CurvePaths", name := "move", desc := "(II)I" }) prog_1_method_2_code (3) (Option.some Jvm.ClassFile.FieldType.int) ∈ gw := gw_in 157 rfl rfl
set_option maxRecDepth 20000 in
theorem gw_158 : Cond.methodLink "CurvePaths" (40) ({ cls := "CurvePaths", name := "isFarPoint", desc := "(JJ)Z" }) ∈ gw := gw_in 158 rfl rfl
set_option maxRecDepth 20000 in
theorem gw_159 : Cond.static ({ cls := "CurvePaths", name := "isFarPoint", desc := "(JJ)Z" }) ∈ gw := gw_in 159 rfl rfl
set_option maxRecDepth 20000 in
theorem gw_160 : Cond.code ({ cls := "CurvePaths", name := "isFarPoint", desc := "(JJ)Z" }) prog_1_method_23_code (4) (Option.some Jvm.ClassFile.FieldType.boolean) ∈ gw := gw_in 160 rfl rfl
set_option maxRecDepth 20000 in
theorem gw_161 : Cond.methodLink "CurvePaths" (201) ({ cls := "CurvePaths", name := "isFar", desc := "(J)Z" }) ∈ gw := gw_in 161 rfl rfl
set_option maxRecDepth 20000 in
theorem gw_162 : Cond.static ({ cls := "CurvePaths", name := "isFar", desc := "(J)Z" }) ∈ gw := gw_in 162 rfl rfl
set_option maxRecDepth 20000 in
theorem gw_163 : Cond.code ({ cls := "CurvePaths", name := "isFar", desc := "(J)Z" }) prog_1_method_22_code (2) (Option.some Jvm.ClassFile.FieldType.boolean) ∈ gw := gw_in 163 rfl rfl
set_option maxRecDepth 20000 in
theorem gw_164 : Cond.constantLong "CurvePaths" (197) (-536870912 : Int64) ∈ gw := gw_in 164 rfl rfl
set_option maxRecDepth 20000 in
theorem gw_165 : Cond.constantLong "CurvePaths" (199) (536870912 : Int64) ∈ gw := gw_in 165 rfl rfl
set_option maxRecDepth 20000 in
theorem gw_166 : Cond.methodLink "CurvePaths" (44) ({ cls := "CurvePaths$Path", name := "onlyBegan", desc := "()Z" }) ∈ gw := gw_in 166 rfl rfl
set_option maxRecDepth 20000 in
theorem gw_167 : Cond.instanceMethod ({ cls := "CurvePaths$Path", name := "onlyBegan", desc := "()Z" }) ∈ gw := gw_in 167 rfl rfl
set_option maxRecDepth 20000 in
theorem gw_168 : Cond.selects "CurvePaths$Path" ({ cls := "CurvePaths$Path", name := "onlyBegan", desc := "()Z" }) ({ cls := "CurvePaths$Path", name := "onlyBegan", desc := "()Z" }) ∈ gw := gw_in 168 rfl rfl
set_option maxRecDepth 20000 in
theorem gw_169 : Cond.code ({ cls := "CurvePaths$Path", name := "onlyBegan", desc := "()Z" }) prog_5_method_4_code (1) (Option.some Jvm.ClassFile.FieldType.boolean) ∈ gw := gw_in 169 rfl rfl
set_option maxRecDepth 20000 in
theorem gw_170 : Cond.methodLink "CurvePaths" (48) ({ cls := "CurvePaths$Path", name := "replaceBeginning", desc := "(II)V" }) ∈ gw := gw_in 170 rfl rfl
set_option maxRecDepth 20000 in
theorem gw_171 : Cond.instanceMethod ({ cls := "CurvePaths$Path", name := "replaceBeginning", desc := "(II)V" }) ∈ gw := gw_in 171 rfl rfl
set_option maxRecDepth 20000 in
theorem gw_172 : Cond.selects "CurvePaths$Path" ({ cls := "CurvePaths$Path", name := "replaceBeginning", desc := "(II)V" }) ({ cls := "CurvePaths$Path", name := "replaceBeginning", desc := "(II)V" }) ∈ gw := gw_in 172 rfl rfl
set_option maxRecDepth 20000 in
theorem gw_173 : Cond.code ({ cls := "CurvePaths$Path", name := "replaceBeginning", desc := "(II)V" }) prog_5_method_12_code (3) (Option.none : Option Jvm.ClassFile.FieldType) ∈ gw := gw_in 173 rfl rfl
set_option maxRecDepth 20000 in
theorem gw_174 : Cond.methodLink "CurvePaths" (56) ({ cls := "CurvePaths$Path", name := "takes", desc := "(I)Z" }) ∈ gw := gw_in 174 rfl rfl
set_option maxRecDepth 20000 in
theorem gw_175 : Cond.instanceMethod ({ cls := "CurvePaths$Path", name := "takes", desc := "(I)Z" }) ∈ gw := gw_in 175 rfl rfl
set_option maxRecDepth 20000 in
theorem gw_176 : Cond.selects "CurvePaths$Path" ({ cls := "CurvePaths$Path", name := "takes", desc := "(I)Z" }) ({ cls := "CurvePaths$Path", name := "takes", desc := "(I)Z" }) ∈ gw := gw_in 176 rfl rfl
set_option maxRecDepth 20000 in
theorem gw_177 : Cond.code ({ cls := "CurvePaths$Path", name := "takes", desc := "(I)Z" }) prog_5_method_6_code (2) (Option.some Jvm.ClassFile.FieldType.boolean) ∈ gw := gw_in 177 rfl rfl
set_option maxRecDepth 20000 in
theorem gw_178 : Cond.methodLink "CurvePaths" (60) ({ cls := "CurvePaths$Path", name := "addBeginning", desc := "(II)V" }) ∈ gw := gw_in 178 rfl rfl
set_option maxRecDepth 20000 in
theorem gw_179 : Cond.instanceMethod ({ cls := "CurvePaths$Path", name := "addBeginning", desc := "(II)V" }) ∈ gw := gw_in 179 rfl rfl
set_option maxRecDepth 20000 in
theorem gw_180 : Cond.selects "CurvePaths$Path" ({ cls := "CurvePaths$Path", name := "addBeginning", desc := "(II)V" }) ({ cls := "CurvePaths$Path", name := "addBeginning", desc := "(II)V" }) ∈ gw := gw_in 180 rfl rfl
set_option maxRecDepth 20000 in
theorem gw_181 : Cond.code ({ cls := "CurvePaths$Path", name := "addBeginning", desc := "(II)V" }) prog_5_method_13_code (3) (Option.none : Option Jvm.ClassFile.FieldType) ∈ gw := gw_in 181 rfl rfl
set_option maxRecDepth 20000 in
theorem gw_182 : Cond.methodLink "CurvePaths$Path" (46) ({ cls := "CurvePaths$Path", name := "addPart", desc := "(II)V" }) ∈ gw := gw_in 182 rfl rfl
set_option maxRecDepth 20000 in
theorem gw_184 : Cond.instanceMethod ({ cls := "CurvePaths$Path", name := "addPart", desc := "(II)V" }) ∈ gw := gw_in 184 rfl rfl
set_option maxRecDepth 20000 in
theorem gw_185 : Cond.code ({ cls := "CurvePaths$Path", name := "addPart", desc := "(II)V" }) prog_5_method_20_code (3) (Option.none : Option Jvm.ClassFile.FieldType) ∈ gw := gw_in 185 rfl rfl
set_option maxRecDepth 20000 in
theorem gw_186 : Cond.methodLink "CurvePaths$Path" (50) ({ cls := "CurvePaths$Path", name := "addPoint", desc := "(II)V" }) ∈ gw := gw_in 186 rfl rfl
set_option maxRecDepth 20000 in
theorem gw_188 : Cond.instanceMethod ({ cls := "CurvePaths$Path", name := "addPoint", desc := "(II)V" }) ∈ gw := gw_in 188 rfl rfl
set_option maxRecDepth 20000 in
theorem gw_189 : Cond.code ({ cls := "CurvePaths$Path", name := "addPoint", desc := "(II)V" }) prog_5_method_21_code (3) (Option.none : Option Jvm.ClassFile.FieldType) ∈ gw := gw_in 189 rfl rfl
set_option maxRecDepth 20000 in
theorem gw_190 : Cond.methodLink "CurvePathsLaw" (18) ({ cls := "CurvePaths", name := "line", desc := "(II)I" }) ∈ gw := gw_in 190 rfl rfl
set_option maxRecDepth 20000 in
theorem gw_191 : Cond.instanceMethod ({ cls := "CurvePaths", name := "line", desc := "(II)I" }) ∈ gw := gw_in 191 rfl rfl
set_option maxRecDepth 20000 in
theorem gw_192 : Cond.selects "CurvePaths" ({ cls := "CurvePaths", name := "line", desc := "(II)I" }) ({ cls := "CurvePaths", name := "line", desc := "(II)I" }) ∈ gw := gw_in 192 rfl rfl
set_option maxRecDepth 20000 in
theorem gw_193 : Cond.code ({ cls := "CurvePaths", name := "line", desc := "(II)I" }) prog_1_method_3_code (3) (Option.some Jvm.ClassFile.FieldType.int) ∈ gw := gw_in 193 rfl rfl
set_option maxRecDepth 20000 in
theorem gw_194 : Cond.methodLink "CurvePaths" (63) ({ cls := "CurvePaths$Path", name := "isEmpty", desc := "()Z" }) ∈ gw := gw_in 194 rfl rfl
set_option maxRecDepth 20000 in
theorem gw_195 : Cond.instanceMethod ({ cls := "CurvePaths$Path", name := "isEmpty", desc := "()Z" }) ∈ gw := gw_in 195 rfl rfl
set_option maxRecDepth 20000 in
theorem gw_196 : Cond.selects "CurvePaths$Path" ({ cls := "CurvePaths$Path", name := "isEmpty", desc := "()Z" }) ({ cls := "CurvePaths$Path", name := "isEmpty", desc := "()Z" }) ∈ gw := gw_in 196 rfl rfl
set_option maxRecDepth 20000 in
theorem gw_197 : Cond.code ({ cls := "CurvePaths$Path", name := "isEmpty", desc := "()Z" }) prog_5_method_2_code (1) (Option.some Jvm.ClassFile.FieldType.boolean) ∈ gw := gw_in 197 rfl rfl
set_option maxRecDepth 20000 in
theorem gw_198 : Cond.methodLink "CurvePaths" (66) ({ cls := "CurvePaths$Path", name := "takesSegments", desc := "(I)Z" }) ∈ gw := gw_in 198 rfl rfl
set_option maxRecDepth 20000 in
theorem gw_199 : Cond.instanceMethod ({ cls := "CurvePaths$Path", name := "takesSegments", desc := "(I)Z" }) ∈ gw := gw_in 199 rfl rfl
set_option maxRecDepth 20000 in
theorem gw_200 : Cond.selects "CurvePaths$Path" ({ cls := "CurvePaths$Path", name := "takesSegments", desc := "(I)Z" }) ({ cls := "CurvePaths$Path", name := "takesSegments", desc := "(I)Z" }) ∈ gw := gw_in 200 rfl rfl
set_option maxRecDepth 20000 in
theorem gw_201 : Cond.code ({ cls := "CurvePaths$Path", name := "takesSegments", desc := "(I)Z" }) prog_5_method_7_code (2) (Option.some Jvm.ClassFile.FieldType.boolean) ∈ gw := gw_in 201 rfl rfl
set_option maxRecDepth 20000 in
theorem gw_202 : Cond.methodLink "CurvePaths$Path" (28) ({ cls := "CurvePaths$Path", name := "isClosed", desc := "()Z" }) ∈ gw := gw_in 202 rfl rfl
set_option maxRecDepth 20000 in
theorem gw_203 : Cond.instanceMethod ({ cls := "CurvePaths$Path", name := "isClosed", desc := "()Z" }) ∈ gw := gw_in 203 rfl rfl
set_option maxRecDepth 20000 in
theorem gw_204 : Cond.selects "CurvePaths$Path" ({ cls := "CurvePaths$Path", name := "isClosed", desc := "()Z" }) ({ cls := "CurvePaths$Path", name := "isClosed", desc := "()Z" }) ∈ gw := gw_in 204 rfl rfl
set_option maxRecDepth 20000 in
theorem gw_205 : Cond.code ({ cls := "CurvePaths$Path", name := "isClosed", desc := "()Z" }) prog_5_method_5_code (1) (Option.some Jvm.ClassFile.FieldType.boolean) ∈ gw := gw_in 205 rfl rfl
set_option maxRecDepth 20000 in
theorem gw_206 : Cond.methodLink "CurvePaths$Path" (32) ({ cls := "CurvePaths$Path", name := "takes", desc := "(I)Z" }) ∈ gw := gw_in 206 rfl rfl
set_option maxRecDepth 20000 in
theorem gw_207 : Cond.methodLink "CurvePaths" (69) ({ cls := "CurvePaths$Path", name := "goOn", desc := "()V" }) ∈ gw := gw_in 207 rfl rfl
set_option maxRecDepth 20000 in
theorem gw_208 : Cond.instanceMethod ({ cls := "CurvePaths$Path", name := "goOn", desc := "()V" }) ∈ gw := gw_in 208 rfl rfl
set_option maxRecDepth 20000 in
theorem gw_209 : Cond.selects "CurvePaths$Path" ({ cls := "CurvePaths$Path", name := "goOn", desc := "()V" }) ({ cls := "CurvePaths$Path", name := "goOn", desc := "()V" }) ∈ gw := gw_in 209 rfl rfl
set_option maxRecDepth 20000 in
theorem gw_210 : Cond.code ({ cls := "CurvePaths$Path", name := "goOn", desc := "()V" }) prog_5_method_17_code (1) (Option.none : Option Jvm.ClassFile.FieldType) ∈ gw := gw_in 210 rfl rfl
set_option maxRecDepth 20000 in
theorem gw_211 : Cond.methodLink "CurvePaths$Path" (53) ({ cls := "CurvePaths$Path", name := "addBeginning", desc := "(II)V" }) ∈ gw := gw_in 211 rfl rfl
set_option maxRecDepth 20000 in
theorem gw_212 : Cond.methodLink "CurvePaths" (72) ({ cls := "CurvePaths$Path", name := "addLine", desc := "(II)V" }) ∈ gw := gw_in 212 rfl rfl
set_option maxRecDepth 20000 in
theorem gw_213 : Cond.instanceMethod ({ cls := "CurvePaths$Path", name := "addLine", desc := "(II)V" }) ∈ gw := gw_in 213 rfl rfl
set_option maxRecDepth 20000 in
theorem gw_214 : Cond.selects "CurvePaths$Path" ({ cls := "CurvePaths$Path", name := "addLine", desc := "(II)V" }) ({ cls := "CurvePaths$Path", name := "addLine", desc := "(II)V" }) ∈ gw := gw_in 214 rfl rfl
set_option maxRecDepth 20000 in
theorem gw_215 : Cond.code ({ cls := "CurvePaths$Path", name := "addLine", desc := "(II)V" }) prog_5_method_14_code (3) (Option.none : Option Jvm.ClassFile.FieldType) ∈ gw := gw_in 215 rfl rfl
set_option maxRecDepth 20000 in
theorem gw_216 : Cond.methodLink "CurvePathsLaw" (22) ({ cls := "CurvePaths", name := "curve", desc := "(IIIIII)I" }) ∈ gw := gw_in 216 rfl rfl
set_option maxRecDepth 20000 in
theorem gw_217 : Cond.instanceMethod ({ cls := "CurvePaths", name := "curve", desc := "(IIIIII)I" }) ∈ gw := gw_in 217 rfl rfl
set_option maxRecDepth 20000 in
theorem gw_218 : Cond.selects "CurvePaths" ({ cls := "CurvePaths", name := "curve", desc := "(IIIIII)I" }) ({ cls := "CurvePaths", name := "curve", desc := "(IIIIII)I" }) ∈ gw := gw_in 218 rfl rfl
set_option maxRecDepth 20000 in
theorem gw_219 : Cond.code ({ cls := "CurvePaths", name := "curve", desc := "(IIIIII)I" }) prog_1_method_4_code (7) (Option.some Jvm.ClassFile.FieldType.int) ∈ gw := gw_in 219 rfl rfl
set_option maxRecDepth 20000 in
theorem gw_220 : Cond.methodLink "CurvePaths" (75) ({ cls := "CurvePaths$Path", name := "addCurve", desc := "(IIIIII)V" }) ∈ gw := gw_in 220 rfl rfl
set_option maxRecDepth 20000 in
theorem gw_221 : Cond.instanceMethod ({ cls := "CurvePaths$Path", name := "addCurve", desc := "(IIIIII)V" }) ∈ gw := gw_in 221 rfl rfl
set_option maxRecDepth 20000 in
theorem gw_222 : Cond.selects "CurvePaths$Path" ({ cls := "CurvePaths$Path", name := "addCurve", desc := "(IIIIII)V" }) ({ cls := "CurvePaths$Path", name := "addCurve", desc := "(IIIIII)V" }) ∈ gw := gw_in 222 rfl rfl
set_option maxRecDepth 20000 in
theorem gw_223 : Cond.code ({ cls := "CurvePaths$Path", name := "addCurve", desc := "(IIIIII)V" }) prog_5_method_15_code (7) (Option.none : Option Jvm.ClassFile.FieldType) ∈ gw := gw_in 223 rfl rfl
set_option maxRecDepth 20000 in
theorem gw_224 : Cond.methodLink "CurvePathsLaw" (27) ({ cls := "CurvePaths", name := "close", desc := "()I" }) ∈ gw := gw_in 224 rfl rfl
set_option maxRecDepth 20000 in
theorem gw_225 : Cond.instanceMethod ({ cls := "CurvePaths", name := "close", desc := "()I" }) ∈ gw := gw_in 225 rfl rfl
set_option maxRecDepth 20000 in
theorem gw_226 : Cond.selects "CurvePaths" ({ cls := "CurvePaths", name := "close", desc := "()I" }) ({ cls := "CurvePaths", name := "close", desc := "()I" }) ∈ gw := gw_in 226 rfl rfl
set_option maxRecDepth 20000 in
theorem gw_227 : Cond.code ({ cls := "CurvePaths", name := "close", desc := "()I" }) prog_1_method_5_code (1) (Option.some Jvm.ClassFile.FieldType.int) ∈ gw := gw_in 227 rfl rfl
set_option maxRecDepth 20000 in
theorem gw_228 : Cond.methodLink "CurvePaths" (79) ({ cls := "CurvePaths$Path", name := "isClosed", desc := "()Z" }) ∈ gw := gw_in 228 rfl rfl
set_option maxRecDepth 20000 in
theorem gw_229 : Cond.methodLink "CurvePaths" (82) ({ cls := "CurvePaths$Path", name := "addClosing", desc := "()V" }) ∈ gw := gw_in 229 rfl rfl
set_option maxRecDepth 20000 in
theorem gw_230 : Cond.instanceMethod ({ cls := "CurvePaths$Path", name := "addClosing", desc := "()V" }) ∈ gw := gw_in 230 rfl rfl
set_option maxRecDepth 20000 in
theorem gw_231 : Cond.selects "CurvePaths$Path" ({ cls := "CurvePaths$Path", name := "addClosing", desc := "()V" }) ({ cls := "CurvePaths$Path", name := "addClosing", desc := "()V" }) ∈ gw := gw_in 231 rfl rfl
set_option maxRecDepth 20000 in
theorem gw_232 : Cond.code ({ cls := "CurvePaths$Path", name := "addClosing", desc := "()V" }) prog_5_method_16_code (1) (Option.none : Option Jvm.ClassFile.FieldType) ∈ gw := gw_in 232 rfl rfl
set_option maxRecDepth 20000 in
theorem gw_233 : Cond.methodLink "CurvePathsLaw" (32) ({ cls := "CurvePaths", name := "axes", desc := "(IIII)Z" }) ∈ gw := gw_in 233 rfl rfl
set_option maxRecDepth 20000 in
theorem gw_234 : Cond.instanceMethod ({ cls := "CurvePaths", name := "axes", desc := "(IIII)Z" }) ∈ gw := gw_in 234 rfl rfl
set_option maxRecDepth 20000 in
theorem gw_235 : Cond.selects "CurvePaths" ({ cls := "CurvePaths", name := "axes", desc := "(IIII)Z" }) ({ cls := "CurvePaths", name := "axes", desc := "(IIII)Z" }) ∈ gw := gw_in 235 rfl rfl
set_option maxRecDepth 20000 in
theorem gw_236 : Cond.code ({ cls := "CurvePaths", name := "axes", desc := "(IIII)Z" }) prog_1_method_6_code (5) (Option.some Jvm.ClassFile.FieldType.boolean) ∈ gw := gw_in 236 rfl rfl
set_option maxRecDepth 20000 in
theorem gw_237 : Cond.methodLink "CurvePaths" (85) ({ cls := "CurvePaths$Axes", name := "set", desc := "(IIII)V" }) ∈ gw := gw_in 237 rfl rfl
set_option maxRecDepth 20000 in
theorem gw_238 : Cond.instanceMethod ({ cls := "CurvePaths$Axes", name := "set", desc := "(IIII)V" }) ∈ gw := gw_in 238 rfl rfl
set_option maxRecDepth 20000 in
theorem gw_239 : Cond.selects "CurvePaths$Axes" ({ cls := "CurvePaths$Axes", name := "set", desc := "(IIII)V" }) ({ cls := "CurvePaths$Axes", name := "set", desc := "(IIII)V" }) ∈ gw := gw_in 239 rfl rfl
set_option maxRecDepth 20000 in
theorem gw_240 : Cond.code ({ cls := "CurvePaths$Axes", name := "set", desc := "(IIII)V" }) prog_3_method_2_code (5) (Option.none : Option Jvm.ClassFile.FieldType) ∈ gw := gw_in 240 rfl rfl
set_option maxRecDepth 20000 in
theorem gw_241 : Cond.methodLink "CurvePathsLaw" (37) ({ cls := "CurvePaths", name := "arc", desc := "(IIIII)I" }) ∈ gw := gw_in 241 rfl rfl
set_option maxRecDepth 20000 in
theorem gw_242 : Cond.instanceMethod ({ cls := "CurvePaths", name := "arc", desc := "(IIIII)I" }) ∈ gw := gw_in 242 rfl rfl
set_option maxRecDepth 20000 in
theorem gw_243 : Cond.selects "CurvePaths" ({ cls := "CurvePaths", name := "arc", desc := "(IIIII)I" }) ({ cls := "CurvePaths", name := "arc", desc := "(IIIII)I" }) ∈ gw := gw_in 243 rfl rfl
set_option maxRecDepth 20000 in
theorem gw_244 : Cond.code ({ cls := "CurvePaths", name := "arc", desc := "(IIIII)I" }) prog_1_method_7_code (8) (Option.some Jvm.ClassFile.FieldType.int) ∈ gw := gw_in 244 rfl rfl
set_option maxRecDepth 20000 in
theorem gw_245 : Cond.methodLink "CurvePaths" (89) ({ cls := "CurvePaths", name := "notBelow", desc := "(JJ)J" }) ∈ gw := gw_in 245 rfl rfl
set_option maxRecDepth 20000 in
theorem gw_246 : Cond.static ({ cls := "CurvePaths", name := "notBelow", desc := "(JJ)J" }) ∈ gw := gw_in 246 rfl rfl
set_option maxRecDepth 20000 in
theorem gw_247 : Cond.code ({ cls := "CurvePaths", name := "notBelow", desc := "(JJ)J" }) prog_1_method_20_code (4) (Option.some Jvm.ClassFile.FieldType.long) ∈ gw := gw_in 247 rfl rfl
set_option maxRecDepth 20000 in
theorem gw_248 : Cond.constantLong "CurvePaths" (192) (23592960 : Int64) ∈ gw := gw_in 248 rfl rfl
set_option maxRecDepth 20000 in
theorem gw_249 : Cond.methodLink "CurvePaths" (194) ({ cls := "java/lang/Math", name := "floorMod", desc := "(JJ)J" }) ∈ gw := gw_in 249 rfl rfl
set_option maxRecDepth 20000 in
theorem gw_250 : Cond.static ({ cls := "java/lang/Math", name := "floorMod", desc := "(JJ)J" }) ∈ gw := gw_in 250 rfl rfl
set_option maxRecDepth 20000 in
theorem gw_251 : Cond.code ({ cls := "java/lang/Math", name := "floorMod", desc := "(JJ)J" }) prog_9_method_52_code (6) (Option.some Jvm.ClassFile.FieldType.long) ∈ gw := gw_in 251 rfl rfl
set_option maxRecDepth 20000 in
theorem gw_252 : Cond.methodLink "CurvePaths" (93) ({ cls := "CurvePaths", name := "notAbove", desc := "(JJ)J" }) ∈ gw := gw_in 252 rfl rfl
set_option maxRecDepth 20000 in
theorem gw_253 : Cond.static ({ cls := "CurvePaths", name := "notAbove", desc := "(JJ)J" }) ∈ gw := gw_in 253 rfl rfl
set_option maxRecDepth 20000 in
theorem gw_254 : Cond.code ({ cls := "CurvePaths", name := "notAbove", desc := "(JJ)J" }) prog_1_method_21_code (4) (Option.some Jvm.ClassFile.FieldType.long) ∈ gw := gw_in 254 rfl rfl
set_option maxRecDepth 20000 in
theorem gw_255 : Cond.methodLink "CurvePaths" (96) ({ cls := "java/lang/Math", name := "abs", desc := "(J)J" }) ∈ gw := gw_in 255 rfl rfl
set_option maxRecDepth 20000 in
theorem gw_256 : Cond.static ({ cls := "java/lang/Math", name := "abs", desc := "(J)J" }) ∈ gw := gw_in 256 rfl rfl
set_option maxRecDepth 20000 in
theorem gw_257 : Cond.code ({ cls := "java/lang/Math", name := "abs", desc := "(J)J" }) prog_9_method_61_code (2) (Option.some Jvm.ClassFile.FieldType.long) ∈ gw := gw_in 257 rfl rfl
set_option maxRecDepth 20000 in
theorem gw_258 : Cond.constantLong "CurvePaths" (102) (235929600 : Int64) ∈ gw := gw_in 258 rfl rfl
set_option maxRecDepth 20000 in
theorem gw_259 : Cond.methodLink "CurvePaths" (104) ({ cls := "CurvePaths$Arc", name := "reckon", desc := "(JJ)V" }) ∈ gw := gw_in 259 rfl rfl
set_option maxRecDepth 20000 in
theorem gw_260 : Cond.instanceMethod ({ cls := "CurvePaths$Arc", name := "reckon", desc := "(JJ)V" }) ∈ gw := gw_in 260 rfl rfl
set_option maxRecDepth 20000 in
theorem gw_261 : Cond.selects "CurvePaths$Arc" ({ cls := "CurvePaths$Arc", name := "reckon", desc := "(JJ)V" }) ({ cls := "CurvePaths$Arc", name := "reckon", desc := "(JJ)V" }) ∈ gw := gw_in 261 rfl rfl
set_option maxRecDepth 20000 in
theorem gw_262 : Cond.code ({ cls := "CurvePaths$Arc", name := "reckon", desc := "(JJ)V" }) prog_2_method_3_code (16) (Option.none : Option Jvm.ClassFile.FieldType) ∈ gw := gw_in 262 rfl rfl
set_option maxRecDepth 20000 in
theorem gw_263 : Cond.constantLong "CurvePaths$Arc" (28) (5898240 : Int64) ∈ gw := gw_in 263 rfl rfl
set_option maxRecDepth 20000 in
theorem gw_264 : Cond.methodLink "CurvePaths$Arc" (30) ({ cls := "java/lang/Math", name := "floorDiv", desc := "(JJ)J" }) ∈ gw := gw_in 264 rfl rfl
set_option maxRecDepth 20000 in
theorem gw_265 : Cond.static ({ cls := "java/lang/Math", name := "floorDiv", desc := "(JJ)J" }) ∈ gw := gw_in 265 rfl rfl
set_option maxRecDepth 20000 in
theorem gw_266 : Cond.code ({ cls := "java/lang/Math", name := "floorDiv", desc := "(JJ)J" }) prog_9_method_49_code (6) (Option.some Jvm.ClassFile.FieldType.long) ∈ gw := gw_in 266 rfl rfl
set_option maxRecDepth 20000 in
theorem gw_267 : Cond.methodLink "CurvePaths$Arc" (36) ({ cls := "CurvePaths$Arc", name := "placeIn", desc := "(JJ)I" }) ∈ gw := gw_in 267 rfl rfl
set_option maxRecDepth 20000 in
theorem gw_268 : Cond.static ({ cls := "CurvePaths$Arc", name := "placeIn", desc := "(JJ)I" }) ∈ gw := gw_in 268 rfl rfl
set_option maxRecDepth 20000 in
theorem gw_269 : Cond.code ({ cls := "CurvePaths$Arc", name := "placeIn", desc := "(JJ)I" }) prog_2_method_7_code (4) (Option.some Jvm.ClassFile.FieldType.int) ∈ gw := gw_in 269 rfl rfl
set_option maxRecDepth 20000 in
theorem gw_270 : Cond.constantLong "CurvePaths$Arc" (83) (45 : Int64) ∈ gw := gw_in 270 rfl rfl
set_option maxRecDepth 20000 in
theorem gw_271 : Cond.constantLong "CurvePaths$Arc" (85) (90 : Int64) ∈ gw := gw_in 271 rfl rfl
set_option maxRecDepth 20000 in
theorem gw_272 : Cond.constant "CurvePaths$Arc" (40) (65536 : Int32) ∈ gw := gw_in 272 rfl rfl
set_option maxRecDepth 20000 in
theorem gw_273 : Cond.methodLink "CurvePaths$Arc" (41) ({ cls := "CurvePaths$Arc", name := "takePart", desc := "(JII)V" }) ∈ gw := gw_in 273 rfl rfl
set_option maxRecDepth 20000 in
theorem gw_275 : Cond.instanceMethod ({ cls := "CurvePaths$Arc", name := "takePart", desc := "(JII)V" }) ∈ gw := gw_in 275 rfl rfl
set_option maxRecDepth 20000 in
theorem gw_276 : Cond.code ({ cls := "CurvePaths$Arc", name := "takePart", desc := "(JII)V" }) prog_2_method_8_code (5) (Option.none : Option Jvm.ClassFile.FieldType) ∈ gw := gw_in 276 rfl rfl
set_option maxRecDepth 20000 in
theorem gw_277 : Cond.methodLink "CurvePaths$Arc" (48) ({ cls := "CurvePaths$Arc", name := "takeQuarter", desc := "(J)V" }) ∈ gw := gw_in 277 rfl rfl
set_option maxRecDepth 20000 in
theorem gw_279 : Cond.instanceMethod ({ cls := "CurvePaths$Arc", name := "takeQuarter", desc := "(J)V" }) ∈ gw := gw_in 279 rfl rfl
set_option maxRecDepth 20000 in
theorem gw_280 : Cond.code ({ cls := "CurvePaths$Arc", name := "takeQuarter", desc := "(J)V" }) prog_2_method_9_code (5) (Option.none : Option Jvm.ClassFile.FieldType) ∈ gw := gw_in 280 rfl rfl
set_option maxRecDepth 20000 in
theorem gw_283 : Cond.constantLong "CurvePaths$Arc" (97) (4 : Int64) ∈ gw := gw_in 283 rfl rfl
set_option maxRecDepth 20000 in
theorem gw_284 : Cond.methodLink "CurvePaths$Arc" (99) ({ cls := "java/lang/Math", name := "floorMod", desc := "(JJ)J" }) ∈ gw := gw_in 284 rfl rfl
set_option maxRecDepth 20000 in
theorem gw_285 : Cond.methodLink "CurvePaths$Arc" (102) ({ cls := "CurvePaths$Arc", name := "turnQuarter", desc := "()V" }) ∈ gw := gw_in 285 rfl rfl
set_option maxRecDepth 20000 in
theorem gw_287 : Cond.instanceMethod ({ cls := "CurvePaths$Arc", name := "turnQuarter", desc := "()V" }) ∈ gw := gw_in 287 rfl rfl
set_option maxRecDepth 20000 in
theorem gw_288 : Cond.code ({ cls := "CurvePaths$Arc", name := "turnQuarter", desc := "()V" }) prog_2_method_10_code (3) (Option.none : Option Jvm.ClassFile.FieldType) ∈ gw := gw_in 288 rfl rfl
set_option maxRecDepth 20000 in
theorem gw_289 : Cond.methodLink "CurvePaths$Arc" (87) ({ cls := "CurvePaths$Arc", name := "keepBefore", desc := "(I)V" }) ∈ gw := gw_in 289 rfl rfl
set_option maxRecDepth 20000 in
theorem gw_291 : Cond.instanceMethod ({ cls := "CurvePaths$Arc", name := "keepBefore", desc := "(I)V" }) ∈ gw := gw_in 291 rfl rfl
set_option maxRecDepth 20000 in
theorem gw_292 : Cond.code ({ cls := "CurvePaths$Arc", name := "keepBefore", desc := "(I)V" }) prog_2_method_11_code (4) (Option.none : Option Jvm.ClassFile.FieldType) ∈ gw := gw_in 292 rfl rfl
set_option maxRecDepth 20000 in
theorem gw_293 : Cond.methodLink "CurvePaths$Arc" (105) ({ cls := "CurvePaths$Arc", name := "mix", desc := "(III)I" }) ∈ gw := gw_in 293 rfl rfl
set_option maxRecDepth 20000 in
theorem gw_294 : Cond.static ({ cls := "CurvePaths$Arc", name := "mix", desc := "(III)I" }) ∈ gw := gw_in 294 rfl rfl
set_option maxRecDepth 20000 in
theorem gw_295 : Cond.code ({ cls := "CurvePaths$Arc", name := "mix", desc := "(III)I" }) prog_2_method_13_code (3) (Option.some Jvm.ClassFile.FieldType.int) ∈ gw := gw_in 295 rfl rfl
set_option maxRecDepth 20000 in
theorem gw_296 : Cond.constantLong "CurvePaths$Arc" (109) (32768 : Int64) ∈ gw := gw_in 296 rfl rfl
set_option maxRecDepth 20000 in
theorem gw_297 : Cond.constantLong "CurvePaths$Arc" (90) (131072 : Int64) ∈ gw := gw_in 297 rfl rfl
set_option maxRecDepth 20000 in
theorem gw_298 : Cond.constantLong "CurvePaths$Arc" (92) (2 : Int64) ∈ gw := gw_in 298 rfl rfl
set_option maxRecDepth 20000 in
theorem gw_299 : Cond.methodLink "CurvePaths$Arc" (52) ({ cls := "CurvePaths$Arc", name := "keepBehind", desc := "(I)V" }) ∈ gw := gw_in 299 rfl rfl
set_option maxRecDepth 20000 in
theorem gw_301 : Cond.instanceMethod ({ cls := "CurvePaths$Arc", name := "keepBehind", desc := "(I)V" }) ∈ gw := gw_in 301 rfl rfl
set_option maxRecDepth 20000 in
theorem gw_302 : Cond.code ({ cls := "CurvePaths$Arc", name := "keepBehind", desc := "(I)V" }) prog_2_method_12_code (4) (Option.none : Option Jvm.ClassFile.FieldType) ∈ gw := gw_in 302 rfl rfl
set_option maxRecDepth 20000 in
theorem gw_303 : Cond.methodLink "CurvePaths$Arc" (45) ({ cls := "CurvePaths$Arc", name := "addTaken", desc := "()V" }) ∈ gw := gw_in 303 rfl rfl
set_option maxRecDepth 20000 in
theorem gw_305 : Cond.instanceMethod ({ cls := "CurvePaths$Arc", name := "addTaken", desc := "()V" }) ∈ gw := gw_in 305 rfl rfl
set_option maxRecDepth 20000 in
theorem gw_306 : Cond.code ({ cls := "CurvePaths$Arc", name := "addTaken", desc := "()V" }) prog_2_method_14_code (2) (Option.none : Option Jvm.ClassFile.FieldType) ∈ gw := gw_in 306 rfl rfl
set_option maxRecDepth 20000 in
theorem gw_307 : Cond.methodLink "CurvePaths$Arc" (56) ({ cls := "CurvePaths$Arc", name := "addPoint", desc := "(II)V" }) ∈ gw := gw_in 307 rfl rfl
set_option maxRecDepth 20000 in
theorem gw_309 : Cond.instanceMethod ({ cls := "CurvePaths$Arc", name := "addPoint", desc := "(II)V" }) ∈ gw := gw_in 309 rfl rfl
set_option maxRecDepth 20000 in
theorem gw_310 : Cond.code ({ cls := "CurvePaths$Arc", name := "addPoint", desc := "(II)V" }) prog_2_method_15_code (3) (Option.none : Option Jvm.ClassFile.FieldType) ∈ gw := gw_in 310 rfl rfl
set_option maxRecDepth 20000 in
theorem gw_311 : Cond.methodLink "CurvePaths" (108) ({ cls := "CurvePaths$Arc", name := "turnRound", desc := "()V" }) ∈ gw := gw_in 311 rfl rfl
set_option maxRecDepth 20000 in
theorem gw_312 : Cond.instanceMethod ({ cls := "CurvePaths$Arc", name := "turnRound", desc := "()V" }) ∈ gw := gw_in 312 rfl rfl
set_option maxRecDepth 20000 in
theorem gw_313 : Cond.selects "CurvePaths$Arc" ({ cls := "CurvePaths$Arc", name := "turnRound", desc := "()V" }) ({ cls := "CurvePaths$Arc", name := "turnRound", desc := "()V" }) ∈ gw := gw_in 313 rfl rfl
set_option maxRecDepth 20000 in
theorem gw_314 : Cond.code ({ cls := "CurvePaths$Arc", name := "turnRound", desc := "()V" }) prog_2_method_4_code (1) (Option.none : Option Jvm.ClassFile.FieldType) ∈ gw := gw_in 314 rfl rfl
set_option maxRecDepth 20000 in
theorem gw_316 : Cond.static ({ cls := "CurvePaths", name := "turnRow", desc := "([III)V" }) ∈ gw := gw_in 316 rfl rfl
set_option maxRecDepth 20000 in
theorem gw_317 : Cond.code ({ cls := "CurvePaths", name := "turnRow", desc := "([III)V" }) prog_1_method_28_code (6) (Option.none : Option Jvm.ClassFile.FieldType) ∈ gw := gw_in 317 rfl rfl
set_option maxRecDepth 20000 in
theorem gw_318 : Cond.methodLink "CurvePaths" (111) ({ cls := "CurvePaths$Arc", name := "bringTo", desc := "(IILCurvePaths$Axes;)Z" }) ∈ gw := gw_in 318 rfl rfl
set_option maxRecDepth 20000 in
theorem gw_319 : Cond.instanceMethod ({ cls := "CurvePaths$Arc", name := "bringTo", desc := "(IILCurvePaths$Axes;)Z" }) ∈ gw := gw_in 319 rfl rfl
set_option maxRecDepth 20000 in
theorem gw_320 : Cond.selects "CurvePaths$Arc" ({ cls := "CurvePaths$Arc", name := "bringTo", desc := "(IILCurvePaths$Axes;)Z" }) ({ cls := "CurvePaths$Arc", name := "bringTo", desc := "(IILCurvePaths$Axes;)Z" }) ∈ gw := gw_in 320 rfl rfl
set_option maxRecDepth 20000 in
theorem gw_321 : Cond.code ({ cls := "CurvePaths$Arc", name := "bringTo", desc := "(IILCurvePaths$Axes;)Z" }) prog_2_method_5_code (9) (Option.some Jvm.ClassFile.FieldType.boolean) ∈ gw := gw_in 321 rfl rfl
set_option maxRecDepth 20000 in
theorem gw_322 : Cond.methodLink "CurvePaths$Arc" (64) ({ cls := "CurvePaths$Axes", name := "alongX", desc := "(II)J" }) ∈ gw := gw_in 322 rfl rfl
set_option maxRecDepth 20000 in
theorem gw_323 : Cond.instanceMethod ({ cls := "CurvePaths$Axes", name := "alongX", desc := "(II)J" }) ∈ gw := gw_in 323 rfl rfl
set_option maxRecDepth 20000 in
theorem gw_324 : Cond.selects "CurvePaths$Axes" ({ cls := "CurvePaths$Axes", name := "alongX", desc := "(II)J" }) ({ cls := "CurvePaths$Axes", name := "alongX", desc := "(II)J" }) ∈ gw := gw_in 324 rfl rfl
set_option maxRecDepth 20000 in
theorem gw_325 : Cond.code ({ cls := "CurvePaths$Axes", name := "alongX", desc := "(II)J" }) prog_3_method_3_code (3) (Option.some Jvm.ClassFile.FieldType.long) ∈ gw := gw_in 325 rfl rfl
set_option maxRecDepth 20000 in
theorem gw_326 : Cond.constantLong "CurvePaths$Axes" (24) (32768 : Int64) ∈ gw := gw_in 326 rfl rfl
set_option maxRecDepth 20000 in
theorem gw_327 : Cond.methodLink "CurvePaths$Arc" (70) ({ cls := "CurvePaths$Axes", name := "alongY", desc := "(II)J" }) ∈ gw := gw_in 327 rfl rfl
set_option maxRecDepth 20000 in
theorem gw_328 : Cond.instanceMethod ({ cls := "CurvePaths$Axes", name := "alongY", desc := "(II)J" }) ∈ gw := gw_in 328 rfl rfl
set_option maxRecDepth 20000 in
theorem gw_329 : Cond.selects "CurvePaths$Axes" ({ cls := "CurvePaths$Axes", name := "alongY", desc := "(II)J" }) ({ cls := "CurvePaths$Axes", name := "alongY", desc := "(II)J" }) ∈ gw := gw_in 329 rfl rfl
set_option maxRecDepth 20000 in
theorem gw_330 : Cond.code ({ cls := "CurvePaths$Axes", name := "alongY", desc := "(II)J" }) prog_3_method_4_code (3) (Option.some Jvm.ClassFile.FieldType.long) ∈ gw := gw_in 330 rfl rfl
set_option maxRecDepth 20000 in
theorem gw_332 : Cond.methodLink "CurvePaths" (115) ({ cls := "CurvePaths", name := "addSweep", desc := "()I" }) ∈ gw := gw_in 332 rfl rfl
set_option maxRecDepth 20000 in
theorem gw_334 : Cond.instanceMethod ({ cls := "CurvePaths", name := "addSweep", desc := "()I" }) ∈ gw := gw_in 334 rfl rfl
set_option maxRecDepth 20000 in
theorem gw_335 : Cond.code ({ cls := "CurvePaths", name := "addSweep", desc := "()I" }) prog_1_method_18_code (2) (Option.some Jvm.ClassFile.FieldType.int) ∈ gw := gw_in 335 rfl rfl
set_option maxRecDepth 20000 in
theorem gw_336 : Cond.methodLink "CurvePaths" (175) ({ cls := "CurvePaths$Arc", name := "curveCount", desc := "()I" }) ∈ gw := gw_in 336 rfl rfl
set_option maxRecDepth 20000 in
theorem gw_337 : Cond.instanceMethod ({ cls := "CurvePaths$Arc", name := "curveCount", desc := "()I" }) ∈ gw := gw_in 337 rfl rfl
set_option maxRecDepth 20000 in
theorem gw_338 : Cond.selects "CurvePaths$Arc" ({ cls := "CurvePaths$Arc", name := "curveCount", desc := "()I" }) ({ cls := "CurvePaths$Arc", name := "curveCount", desc := "()I" }) ∈ gw := gw_in 338 rfl rfl
set_option maxRecDepth 20000 in
theorem gw_339 : Cond.code ({ cls := "CurvePaths$Arc", name := "curveCount", desc := "()I" }) prog_2_method_2_code (1) (Option.some Jvm.ClassFile.FieldType.int) ∈ gw := gw_in 339 rfl rfl
set_option maxRecDepth 20000 in
theorem gw_340 : Cond.methodLink "CurvePaths" (180) ({ cls := "CurvePaths$Arc", name := "addCurvesTo", desc := "(LCurvePaths$Path;)V" }) ∈ gw := gw_in 340 rfl rfl
set_option maxRecDepth 20000 in
theorem gw_341 : Cond.instanceMethod ({ cls := "CurvePaths$Arc", name := "addCurvesTo", desc := "(LCurvePaths$Path;)V" }) ∈ gw := gw_in 341 rfl rfl
set_option maxRecDepth 20000 in
theorem gw_342 : Cond.selects "CurvePaths$Arc" ({ cls := "CurvePaths$Arc", name := "addCurvesTo", desc := "(LCurvePaths$Path;)V" }) ({ cls := "CurvePaths$Arc", name := "addCurvesTo", desc := "(LCurvePaths$Path;)V" }) ∈ gw := gw_in 342 rfl rfl
set_option maxRecDepth 20000 in
theorem gw_343 : Cond.code ({ cls := "CurvePaths$Arc", name := "addCurvesTo", desc := "(LCurvePaths$Path;)V" }) prog_2_method_6_code (3) (Option.none : Option Jvm.ClassFile.FieldType) ∈ gw := gw_in 343 rfl rfl
set_option maxRecDepth 20000 in
theorem gw_344 : Cond.methodLink "CurvePaths$Arc" (77) ({ cls := "CurvePaths$Path", name := "addCurve", desc := "(IIIIII)V" }) ∈ gw := gw_in 344 rfl rfl
set_option maxRecDepth 20000 in
theorem gw_345 : Cond.methodLink "CurvePathsLaw" (42) ({ cls := "CurvePaths", name := "shift", desc := "(II)I" }) ∈ gw := gw_in 345 rfl rfl
set_option maxRecDepth 20000 in
theorem gw_346 : Cond.instanceMethod ({ cls := "CurvePaths", name := "shift", desc := "(II)I" }) ∈ gw := gw_in 346 rfl rfl
set_option maxRecDepth 20000 in
theorem gw_347 : Cond.selects "CurvePaths" ({ cls := "CurvePaths", name := "shift", desc := "(II)I" }) ({ cls := "CurvePaths", name := "shift", desc := "(II)I" }) ∈ gw := gw_in 347 rfl rfl
set_option maxRecDepth 20000 in
theorem gw_348 : Cond.code ({ cls := "CurvePaths", name := "shift", desc := "(II)I" }) prog_1_method_8_code (3) (Option.some Jvm.ClassFile.FieldType.int) ∈ gw := gw_in 348 rfl rfl
set_option maxRecDepth 20000 in
theorem gw_349 : Cond.methodLink "CurvePaths" (126) ({ cls := "CurvePaths", name := "staysNear", desc := "([III)Z" }) ∈ gw := gw_in 349 rfl rfl
set_option maxRecDepth 20000 in
theorem gw_350 : Cond.static ({ cls := "CurvePaths", name := "staysNear", desc := "([III)Z" }) ∈ gw := gw_in 350 rfl rfl
set_option maxRecDepth 20000 in
theorem gw_351 : Cond.code ({ cls := "CurvePaths", name := "staysNear", desc := "([III)Z" }) prog_1_method_24_code (4) (Option.some Jvm.ClassFile.FieldType.boolean) ∈ gw := gw_in 351 rfl rfl
set_option maxRecDepth 20000 in
theorem gw_352 : Cond.methodLink "CurvePaths" (133) ({ cls := "CurvePaths", name := "addToAll", desc := "([III)V" }) ∈ gw := gw_in 352 rfl rfl
set_option maxRecDepth 20000 in
theorem gw_353 : Cond.static ({ cls := "CurvePaths", name := "addToAll", desc := "([III)V" }) ∈ gw := gw_in 353 rfl rfl
set_option maxRecDepth 20000 in
theorem gw_354 : Cond.code ({ cls := "CurvePaths", name := "addToAll", desc := "([III)V" }) prog_1_method_25_code (4) (Option.none : Option Jvm.ClassFile.FieldType) ∈ gw := gw_in 354 rfl rfl
set_option maxRecDepth 20000 in
theorem gw_355 : Cond.methodLink "CurvePathsLaw" (46) ({ cls := "CurvePaths", name := "reverse", desc := "()I" }) ∈ gw := gw_in 355 rfl rfl
set_option maxRecDepth 20000 in
theorem gw_356 : Cond.instanceMethod ({ cls := "CurvePaths", name := "reverse", desc := "()I" }) ∈ gw := gw_in 356 rfl rfl
set_option maxRecDepth 20000 in
theorem gw_357 : Cond.selects "CurvePaths" ({ cls := "CurvePaths", name := "reverse", desc := "()I" }) ({ cls := "CurvePaths", name := "reverse", desc := "()I" }) ∈ gw := gw_in 357 rfl rfl
set_option maxRecDepth 20000 in
theorem gw_358 : Cond.code ({ cls := "CurvePaths", name := "reverse", desc := "()I" }) prog_1_method_9_code (1) (Option.some Jvm.ClassFile.FieldType.int) ∈ gw := gw_in 358 rfl rfl
set_option maxRecDepth 20000 in
theorem gw_359 : Cond.methodLink "CurvePaths" (137) ({ cls := "CurvePaths$Path", name := "turnSubpaths", desc := "()V" }) ∈ gw := gw_in 359 rfl rfl
set_option maxRecDepth 20000 in
theorem gw_360 : Cond.instanceMethod ({ cls := "CurvePaths$Path", name := "turnSubpaths", desc := "()V" }) ∈ gw := gw_in 360 rfl rfl
set_option maxRecDepth 20000 in
theorem gw_361 : Cond.selects "CurvePaths$Path" ({ cls := "CurvePaths$Path", name := "turnSubpaths", desc := "()V" }) ({ cls := "CurvePaths$Path", name := "turnSubpaths", desc := "()V" }) ∈ gw := gw_in 361 rfl rfl
set_option maxRecDepth 20000 in
theorem gw_362 : Cond.code ({ cls := "CurvePaths$Path", name := "turnSubpaths", desc := "()V" }) prog_5_method_18_code (3) (Option.none : Option Jvm.ClassFile.FieldType) ∈ gw := gw_in 362 rfl rfl
set_option maxRecDepth 20000 in
theorem gw_363 : Cond.methodLink "CurvePaths$Path" (56) ({ cls := "CurvePaths$Path", name := "turnSubpath", desc := "(II)V" }) ∈ gw := gw_in 363 rfl rfl
set_option maxRecDepth 20000 in
theorem gw_365 : Cond.instanceMethod ({ cls := "CurvePaths$Path", name := "turnSubpath", desc := "(II)V" }) ∈ gw := gw_in 365 rfl rfl
set_option maxRecDepth 20000 in
theorem gw_366 : Cond.code ({ cls := "CurvePaths$Path", name := "turnSubpath", desc := "(II)V" }) prog_5_method_19_code (8) (Option.none : Option Jvm.ClassFile.FieldType) ∈ gw := gw_in 366 rfl rfl
set_option maxRecDepth 20000 in
theorem gw_367 : Cond.methodLink "CurvePaths$Path" (36) ({ cls := "CurvePaths$Path", name := "pointOf", desc := "(I)I" }) ∈ gw := gw_in 367 rfl rfl
set_option maxRecDepth 20000 in
theorem gw_368 : Cond.instanceMethod ({ cls := "CurvePaths$Path", name := "pointOf", desc := "(I)I" }) ∈ gw := gw_in 368 rfl rfl
set_option maxRecDepth 20000 in
theorem gw_369 : Cond.selects "CurvePaths$Path" ({ cls := "CurvePaths$Path", name := "pointOf", desc := "(I)I" }) ({ cls := "CurvePaths$Path", name := "pointOf", desc := "(I)I" }) ∈ gw := gw_in 369 rfl rfl
set_option maxRecDepth 20000 in
theorem gw_370 : Cond.code ({ cls := "CurvePaths$Path", name := "pointOf", desc := "(I)I" }) prog_5_method_8_code (2) (Option.some Jvm.ClassFile.FieldType.int) ∈ gw := gw_in 370 rfl rfl
set_option maxRecDepth 20000 in
theorem gw_372 : Cond.methodLink "CurvePathsLaw" (50) ({ cls := "CurvePaths", name := "flatten", desc := "(I)I" }) ∈ gw := gw_in 372 rfl rfl
set_option maxRecDepth 20000 in
theorem gw_373 : Cond.instanceMethod ({ cls := "CurvePaths", name := "flatten", desc := "(I)I" }) ∈ gw := gw_in 373 rfl rfl
set_option maxRecDepth 20000 in
theorem gw_374 : Cond.selects "CurvePaths" ({ cls := "CurvePaths", name := "flatten", desc := "(I)I" }) ({ cls := "CurvePaths", name := "flatten", desc := "(I)I" }) ∈ gw := gw_in 374 rfl rfl
set_option maxRecDepth 20000 in
theorem gw_375 : Cond.code ({ cls := "CurvePaths", name := "flatten", desc := "(I)I" }) prog_1_method_10_code (3) (Option.some Jvm.ClassFile.FieldType.int) ∈ gw := gw_in 375 rfl rfl
set_option maxRecDepth 20000 in
theorem gw_376 : Cond.constant "CurvePaths" (140) (6553600 : Int32) ∈ gw := gw_in 376 rfl rfl
set_option maxRecDepth 20000 in
theorem gw_377 : Cond.methodLink "CurvePaths" (141) ({ cls := "CurvePaths$Path", name := "makeEmpty", desc := "()V" }) ∈ gw := gw_in 377 rfl rfl
set_option maxRecDepth 20000 in
theorem gw_378 : Cond.instanceMethod ({ cls := "CurvePaths$Path", name := "makeEmpty", desc := "()V" }) ∈ gw := gw_in 378 rfl rfl
set_option maxRecDepth 20000 in
theorem gw_379 : Cond.selects "CurvePaths$Path" ({ cls := "CurvePaths$Path", name := "makeEmpty", desc := "()V" }) ({ cls := "CurvePaths$Path", name := "makeEmpty", desc := "()V" }) ∈ gw := gw_in 379 rfl rfl
set_option maxRecDepth 20000 in
theorem gw_380 : Cond.code ({ cls := "CurvePaths$Path", name := "makeEmpty", desc := "()V" }) prog_5_method_11_code (1) (Option.none : Option Jvm.ClassFile.FieldType) ∈ gw := gw_in 380 rfl rfl
set_option maxRecDepth 20000 in
theorem gw_381 : Cond.methodLink "CurvePaths" (144) ({ cls := "CurvePaths", name := "addFlattened", desc := "(II)Z" }) ∈ gw := gw_in 381 rfl rfl
set_option maxRecDepth 20000 in
theorem gw_383 : Cond.instanceMethod ({ cls := "CurvePaths", name := "addFlattened", desc := "(II)Z" }) ∈ gw := gw_in 383 rfl rfl
set_option maxRecDepth 20000 in
theorem gw_384 : Cond.code ({ cls := "CurvePaths", name := "addFlattened", desc := "(II)Z" }) prog_1_method_19_code (5) (Option.some Jvm.ClassFile.FieldType.boolean) ∈ gw := gw_in 384 rfl rfl
set_option maxRecDepth 20000 in
theorem gw_385 : Cond.methodLink "CurvePaths" (184) ({ cls := "CurvePaths$Halving", name := "take", desc := "(LCurvePaths$Path;I)V" }) ∈ gw := gw_in 385 rfl rfl
set_option maxRecDepth 20000 in
theorem gw_386 : Cond.instanceMethod ({ cls := "CurvePaths$Halving", name := "take", desc := "(LCurvePaths$Path;I)V" }) ∈ gw := gw_in 386 rfl rfl
set_option maxRecDepth 20000 in
theorem gw_387 : Cond.selects "CurvePaths$Halving" ({ cls := "CurvePaths$Halving", name := "take", desc := "(LCurvePaths$Path;I)V" }) ({ cls := "CurvePaths$Halving", name := "take", desc := "(LCurvePaths$Path;I)V" }) ∈ gw := gw_in 387 rfl rfl
set_option maxRecDepth 20000 in
theorem gw_388 : Cond.code ({ cls := "CurvePaths$Halving", name := "take", desc := "(LCurvePaths$Path;I)V" }) prog_4_method_2_code (5) (Option.none : Option Jvm.ClassFile.FieldType) ∈ gw := gw_in 388 rfl rfl
set_option maxRecDepth 20000 in
theorem gw_389 : Cond.methodLink "CurvePaths$Halving" (16) ({ cls := "java/lang/Math", name := "max", desc := "(II)I" }) ∈ gw := gw_in 389 rfl rfl
set_option maxRecDepth 20000 in
theorem gw_390 : Cond.static ({ cls := "java/lang/Math", name := "max", desc := "(II)I" }) ∈ gw := gw_in 390 rfl rfl
set_option maxRecDepth 20000 in
theorem gw_391 : Cond.code ({ cls := "java/lang/Math", name := "max", desc := "(II)I" }) prog_9_method_65_code (2) (Option.some Jvm.ClassFile.FieldType.int) ∈ gw := gw_in 391 rfl rfl
set_option maxRecDepth 20000 in
theorem gw_392 : Cond.methodLink "CurvePaths" (188) ({ cls := "CurvePaths$Halving", name := "addLinesTo", desc := "(LCurvePaths$Path;I)Z" }) ∈ gw := gw_in 392 rfl rfl
set_option maxRecDepth 20000 in
theorem gw_393 : Cond.instanceMethod ({ cls := "CurvePaths$Halving", name := "addLinesTo", desc := "(LCurvePaths$Path;I)Z" }) ∈ gw := gw_in 393 rfl rfl
set_option maxRecDepth 20000 in
theorem gw_394 : Cond.selects "CurvePaths$Halving" ({ cls := "CurvePaths$Halving", name := "addLinesTo", desc := "(LCurvePaths$Path;I)Z" }) ({ cls := "CurvePaths$Halving", name := "addLinesTo", desc := "(LCurvePaths$Path;I)Z" }) ∈ gw := gw_in 394 rfl rfl
set_option maxRecDepth 20000 in
theorem gw_395 : Cond.code ({ cls := "CurvePaths$Halving", name := "addLinesTo", desc := "(LCurvePaths$Path;I)Z" }) prog_4_method_3_code (6) (Option.some Jvm.ClassFile.FieldType.boolean) ∈ gw := gw_in 395 rfl rfl
set_option maxRecDepth 20000 in
theorem gw_396 : Cond.methodLink "CurvePaths$Halving" (34) ({ cls := "CurvePaths$Halving", name := "isFlat", desc := "(II)Z" }) ∈ gw := gw_in 396 rfl rfl
set_option maxRecDepth 20000 in
theorem gw_398 : Cond.instanceMethod ({ cls := "CurvePaths$Halving", name := "isFlat", desc := "(II)Z" }) ∈ gw := gw_in 398 rfl rfl
set_option maxRecDepth 20000 in
theorem gw_399 : Cond.code ({ cls := "CurvePaths$Halving", name := "isFlat", desc := "(II)Z" }) prog_4_method_4_code (4) (Option.some Jvm.ClassFile.FieldType.boolean) ∈ gw := gw_in 399 rfl rfl
set_option maxRecDepth 20000 in
theorem gw_400 : Cond.methodLink "CurvePaths$Halving" (50) ({ cls := "CurvePaths$Halving", name := "isFlatAlong", desc := "(II)Z" }) ∈ gw := gw_in 400 rfl rfl
set_option maxRecDepth 20000 in
theorem gw_402 : Cond.instanceMethod ({ cls := "CurvePaths$Halving", name := "isFlatAlong", desc := "(II)Z" }) ∈ gw := gw_in 402 rfl rfl
set_option maxRecDepth 20000 in
theorem gw_403 : Cond.code ({ cls := "CurvePaths$Halving", name := "isFlatAlong", desc := "(II)Z" }) prog_4_method_5_code (3) (Option.some Jvm.ClassFile.FieldType.boolean) ∈ gw := gw_in 403 rfl rfl
set_option maxRecDepth 20000 in
theorem gw_404 : Cond.methodLink "CurvePaths$Halving" (53) ({ cls := "CurvePaths$Halving", name := "isStraight", desc := "(II)Z" }) ∈ gw := gw_in 404 rfl rfl
set_option maxRecDepth 20000 in
theorem gw_406 : Cond.instanceMethod ({ cls := "CurvePaths$Halving", name := "isStraight", desc := "(II)Z" }) ∈ gw := gw_in 406 rfl rfl
set_option maxRecDepth 20000 in
theorem gw_407 : Cond.code ({ cls := "CurvePaths$Halving", name := "isStraight", desc := "(II)Z" }) prog_4_method_6_code (5) (Option.some Jvm.ClassFile.FieldType.boolean) ∈ gw := gw_in 407 rfl rfl
set_option maxRecDepth 20000 in
theorem gw_408 : Cond.constantLong "CurvePaths$Halving" (56) (2 : Int64) ∈ gw := gw_in 408 rfl rfl
set_option maxRecDepth 20000 in
theorem gw_409 : Cond.constantLong "CurvePaths$Halving" (58) (3 : Int64) ∈ gw := gw_in 409 rfl rfl
set_option maxRecDepth 20000 in
theorem gw_410 : Cond.methodLink "CurvePaths$Halving" (60) ({ cls := "java/lang/Math", name := "abs", desc := "(J)J" }) ∈ gw := gw_in 410 rfl rfl
set_option maxRecDepth 20000 in
theorem gw_411 : Cond.methodLink "CurvePaths$Halving" (38) ({ cls := "CurvePaths$Halving", name := "halve", desc := "(I)V" }) ∈ gw := gw_in 411 rfl rfl
set_option maxRecDepth 20000 in
theorem gw_413 : Cond.instanceMethod ({ cls := "CurvePaths$Halving", name := "halve", desc := "(I)V" }) ∈ gw := gw_in 413 rfl rfl
set_option maxRecDepth 20000 in
theorem gw_414 : Cond.code ({ cls := "CurvePaths$Halving", name := "halve", desc := "(I)V" }) prog_4_method_7_code (2) (Option.none : Option Jvm.ClassFile.FieldType) ∈ gw := gw_in 414 rfl rfl
set_option maxRecDepth 20000 in
theorem gw_415 : Cond.methodLink "CurvePaths$Halving" (64) ({ cls := "CurvePaths$Halving", name := "halveAlong", desc := "(I)V" }) ∈ gw := gw_in 415 rfl rfl
set_option maxRecDepth 20000 in
theorem gw_417 : Cond.instanceMethod ({ cls := "CurvePaths$Halving", name := "halveAlong", desc := "(I)V" }) ∈ gw := gw_in 417 rfl rfl
set_option maxRecDepth 20000 in
theorem gw_418 : Cond.code ({ cls := "CurvePaths$Halving", name := "halveAlong", desc := "(I)V" }) prog_4_method_8_code (10) (Option.none : Option Jvm.ClassFile.FieldType) ∈ gw := gw_in 418 rfl rfl
set_option maxRecDepth 20000 in
theorem gw_419 : Cond.methodLink "CurvePaths$Halving" (67) ({ cls := "CurvePaths$Halving", name := "setPiece", desc := "(IIIII)V" }) ∈ gw := gw_in 419 rfl rfl
set_option maxRecDepth 20000 in
theorem gw_421 : Cond.instanceMethod ({ cls := "CurvePaths$Halving", name := "setPiece", desc := "(IIIII)V" }) ∈ gw := gw_in 421 rfl rfl
set_option maxRecDepth 20000 in
theorem gw_422 : Cond.code ({ cls := "CurvePaths$Halving", name := "setPiece", desc := "(IIIII)V" }) prog_4_method_9_code (6) (Option.none : Option Jvm.ClassFile.FieldType) ∈ gw := gw_in 422 rfl rfl
set_option maxRecDepth 20000 in
theorem gw_423 : Cond.methodLink "CurvePaths$Halving" (42) ({ cls := "CurvePaths$Path", name := "takes", desc := "(I)Z" }) ∈ gw := gw_in 423 rfl rfl
set_option maxRecDepth 20000 in
theorem gw_424 : Cond.methodLink "CurvePaths$Halving" (46) ({ cls := "CurvePaths$Path", name := "addLine", desc := "(II)V" }) ∈ gw := gw_in 424 rfl rfl
set_option maxRecDepth 20000 in
theorem gw_425 : Cond.methodLink "CurvePathsLaw" (55) ({ cls := "CurvePaths", name := "clear", desc := "()I" }) ∈ gw := gw_in 425 rfl rfl
set_option maxRecDepth 20000 in
theorem gw_426 : Cond.instanceMethod ({ cls := "CurvePaths", name := "clear", desc := "()I" }) ∈ gw := gw_in 426 rfl rfl
set_option maxRecDepth 20000 in
theorem gw_427 : Cond.selects "CurvePaths" ({ cls := "CurvePaths", name := "clear", desc := "()I" }) ({ cls := "CurvePaths", name := "clear", desc := "()I" }) ∈ gw := gw_in 427 rfl rfl
set_option maxRecDepth 20000 in
theorem gw_428 : Cond.code ({ cls := "CurvePaths", name := "clear", desc := "()I" }) prog_1_method_11_code (2) (Option.some Jvm.ClassFile.FieldType.int) ∈ gw := gw_in 428 rfl rfl
set_option maxRecDepth 20000 in
theorem gw_429 : Cond.methodLink "CurvePathsLaw" (59) ({ cls := "CurvePaths", name := "parts", desc := "()I" }) ∈ gw := gw_in 429 rfl rfl
set_option maxRecDepth 20000 in
theorem gw_430 : Cond.instanceMethod ({ cls := "CurvePaths", name := "parts", desc := "()I" }) ∈ gw := gw_in 430 rfl rfl
set_option maxRecDepth 20000 in
theorem gw_431 : Cond.selects "CurvePaths" ({ cls := "CurvePaths", name := "parts", desc := "()I" }) ({ cls := "CurvePaths", name := "parts", desc := "()I" }) ∈ gw := gw_in 431 rfl rfl
set_option maxRecDepth 20000 in
theorem gw_432 : Cond.code ({ cls := "CurvePaths", name := "parts", desc := "()I" }) prog_1_method_12_code (1) (Option.some Jvm.ClassFile.FieldType.int) ∈ gw := gw_in 432 rfl rfl
set_option maxRecDepth 20000 in
theorem gw_433 : Cond.methodLink "CurvePathsLaw" (63) ({ cls := "CurvePaths", name := "kind", desc := "(I)I" }) ∈ gw := gw_in 433 rfl rfl
set_option maxRecDepth 20000 in
theorem gw_434 : Cond.instanceMethod ({ cls := "CurvePaths", name := "kind", desc := "(I)I" }) ∈ gw := gw_in 434 rfl rfl
set_option maxRecDepth 20000 in
theorem gw_435 : Cond.selects "CurvePaths" ({ cls := "CurvePaths", name := "kind", desc := "(I)I" }) ({ cls := "CurvePaths", name := "kind", desc := "(I)I" }) ∈ gw := gw_in 435 rfl rfl
set_option maxRecDepth 20000 in
theorem gw_436 : Cond.code ({ cls := "CurvePaths", name := "kind", desc := "(I)I" }) prog_1_method_13_code (2) (Option.some Jvm.ClassFile.FieldType.int) ∈ gw := gw_in 436 rfl rfl
set_option maxRecDepth 20000 in
theorem gw_437 : Cond.methodLink "CurvePaths" (148) ({ cls := "CurvePaths$Path", name := "hasPart", desc := "(I)Z" }) ∈ gw := gw_in 437 rfl rfl
set_option maxRecDepth 20000 in
theorem gw_438 : Cond.instanceMethod ({ cls := "CurvePaths$Path", name := "hasPart", desc := "(I)Z" }) ∈ gw := gw_in 438 rfl rfl
set_option maxRecDepth 20000 in
theorem gw_439 : Cond.selects "CurvePaths$Path" ({ cls := "CurvePaths$Path", name := "hasPart", desc := "(I)Z" }) ({ cls := "CurvePaths$Path", name := "hasPart", desc := "(I)Z" }) ∈ gw := gw_in 439 rfl rfl
set_option maxRecDepth 20000 in
theorem gw_440 : Cond.code ({ cls := "CurvePaths$Path", name := "hasPart", desc := "(I)Z" }) prog_5_method_3_code (2) (Option.some Jvm.ClassFile.FieldType.boolean) ∈ gw := gw_in 440 rfl rfl
set_option maxRecDepth 20000 in
theorem gw_441 : Cond.methodLink "CurvePathsLaw" (67) ({ cls := "CurvePaths", name := "place", desc := "(II)I" }) ∈ gw := gw_in 441 rfl rfl
set_option maxRecDepth 20000 in
theorem gw_442 : Cond.instanceMethod ({ cls := "CurvePaths", name := "place", desc := "(II)I" }) ∈ gw := gw_in 442 rfl rfl
set_option maxRecDepth 20000 in
theorem gw_443 : Cond.selects "CurvePaths" ({ cls := "CurvePaths", name := "place", desc := "(II)I" }) ({ cls := "CurvePaths", name := "place", desc := "(II)I" }) ∈ gw := gw_in 443 rfl rfl
set_option maxRecDepth 20000 in
theorem gw_444 : Cond.code ({ cls := "CurvePaths", name := "place", desc := "(II)I" }) prog_1_method_14_code (3) (Option.some Jvm.ClassFile.FieldType.int) ∈ gw := gw_in 444 rfl rfl
set_option maxRecDepth 20000 in
theorem gw_445 : Cond.methodLink "CurvePaths" (154) ({ cls := "CurvePaths$Path", name := "pointOf", desc := "(I)I" }) ∈ gw := gw_in 445 rfl rfl
set_option maxRecDepth 20000 in
theorem gw_446 : Cond.methodLink "CurvePaths" (158) ({ cls := "CurvePaths$Path", name := "coordinate", desc := "(II)I" }) ∈ gw := gw_in 446 rfl rfl
set_option maxRecDepth 20000 in
theorem gw_447 : Cond.instanceMethod ({ cls := "CurvePaths$Path", name := "coordinate", desc := "(II)I" }) ∈ gw := gw_in 447 rfl rfl
set_option maxRecDepth 20000 in
theorem gw_448 : Cond.selects "CurvePaths$Path" ({ cls := "CurvePaths$Path", name := "coordinate", desc := "(II)I" }) ({ cls := "CurvePaths$Path", name := "coordinate", desc := "(II)I" }) ∈ gw := gw_in 448 rfl rfl
set_option maxRecDepth 20000 in
theorem gw_449 : Cond.code ({ cls := "CurvePaths$Path", name := "coordinate", desc := "(II)I" }) prog_5_method_10_code (3) (Option.some Jvm.ClassFile.FieldType.int) ∈ gw := gw_in 449 rfl rfl
set_option maxRecDepth 20000 in
theorem gw_450 : Cond.methodLink "CurvePathsLaw" (71) ({ cls := "CurvePaths", name := "point", desc := "(I)I" }) ∈ gw := gw_in 450 rfl rfl
set_option maxRecDepth 20000 in
theorem gw_451 : Cond.instanceMethod ({ cls := "CurvePaths", name := "point", desc := "(I)I" }) ∈ gw := gw_in 451 rfl rfl
set_option maxRecDepth 20000 in
theorem gw_452 : Cond.selects "CurvePaths" ({ cls := "CurvePaths", name := "point", desc := "(I)I" }) ({ cls := "CurvePaths", name := "point", desc := "(I)I" }) ∈ gw := gw_in 452 rfl rfl
set_option maxRecDepth 20000 in
theorem gw_453 : Cond.code ({ cls := "CurvePaths", name := "point", desc := "(I)I" }) prog_1_method_15_code (2) (Option.some Jvm.ClassFile.FieldType.int) ∈ gw := gw_in 453 rfl rfl
set_option maxRecDepth 20000 in
theorem gw_454 : Cond.methodLink "CurvePaths" (165) ({ cls := "CurvePaths$Path", name := "latestPoint", desc := "()I" }) ∈ gw := gw_in 454 rfl rfl
set_option maxRecDepth 20000 in
theorem gw_455 : Cond.instanceMethod ({ cls := "CurvePaths$Path", name := "latestPoint", desc := "()I" }) ∈ gw := gw_in 455 rfl rfl
set_option maxRecDepth 20000 in
theorem gw_456 : Cond.selects "CurvePaths$Path" ({ cls := "CurvePaths$Path", name := "latestPoint", desc := "()I" }) ({ cls := "CurvePaths$Path", name := "latestPoint", desc := "()I" }) ∈ gw := gw_in 456 rfl rfl
set_option maxRecDepth 20000 in
theorem gw_457 : Cond.code ({ cls := "CurvePaths$Path", name := "latestPoint", desc := "()I" }) prog_5_method_9_code (1) (Option.some Jvm.ClassFile.FieldType.int) ∈ gw := gw_in 457 rfl rfl
set_option maxRecDepth 20000 in
theorem gw_458 : Cond.methodLink "CurvePathsLaw" (75) ({ cls := "CurvePaths", name := "isPoint", desc := "()Z" }) ∈ gw := gw_in 458 rfl rfl
set_option maxRecDepth 20000 in
theorem gw_459 : Cond.instanceMethod ({ cls := "CurvePaths", name := "isPoint", desc := "()Z" }) ∈ gw := gw_in 459 rfl rfl
set_option maxRecDepth 20000 in
theorem gw_460 : Cond.selects "CurvePaths" ({ cls := "CurvePaths", name := "isPoint", desc := "()Z" }) ({ cls := "CurvePaths", name := "isPoint", desc := "()Z" }) ∈ gw := gw_in 460 rfl rfl
set_option maxRecDepth 20000 in
theorem gw_461 : Cond.code ({ cls := "CurvePaths", name := "isPoint", desc := "()Z" }) prog_1_method_16_code (1) (Option.some Jvm.ClassFile.FieldType.boolean) ∈ gw := gw_in 461 rfl rfl
set_option maxRecDepth 20000 in
theorem gw_462 : Cond.methodLink "CurvePathsLaw" (80) ({ cls := "CurvePaths", name := "bound", desc := "(I)I" }) ∈ gw := gw_in 462 rfl rfl
set_option maxRecDepth 20000 in
theorem gw_463 : Cond.instanceMethod ({ cls := "CurvePaths", name := "bound", desc := "(I)I" }) ∈ gw := gw_in 463 rfl rfl
set_option maxRecDepth 20000 in
theorem gw_464 : Cond.selects "CurvePaths" ({ cls := "CurvePaths", name := "bound", desc := "(I)I" }) ({ cls := "CurvePaths", name := "bound", desc := "(I)I" }) ∈ gw := gw_in 464 rfl rfl
set_option maxRecDepth 20000 in
theorem gw_465 : Cond.code ({ cls := "CurvePaths", name := "bound", desc := "(I)I" }) prog_1_method_17_code (2) (Option.some Jvm.ClassFile.FieldType.int) ∈ gw := gw_in 465 rfl rfl
set_option maxRecDepth 20000 in
theorem gw_466 : Cond.methodLink "CurvePaths" (168) ({ cls := "CurvePaths", name := "least", desc := "([II)I" }) ∈ gw := gw_in 466 rfl rfl
set_option maxRecDepth 20000 in
theorem gw_467 : Cond.static ({ cls := "CurvePaths", name := "least", desc := "([II)I" }) ∈ gw := gw_in 467 rfl rfl
set_option maxRecDepth 20000 in
theorem gw_468 : Cond.code ({ cls := "CurvePaths", name := "least", desc := "([II)I" }) prog_1_method_26_code (4) (Option.some Jvm.ClassFile.FieldType.int) ∈ gw := gw_in 468 rfl rfl
set_option maxRecDepth 20000 in
theorem gw_469 : Cond.methodLink "CurvePaths" (205) ({ cls := "java/lang/Math", name := "min", desc := "(II)I" }) ∈ gw := gw_in 469 rfl rfl
set_option maxRecDepth 20000 in
theorem gw_470 : Cond.static ({ cls := "java/lang/Math", name := "min", desc := "(II)I" }) ∈ gw := gw_in 470 rfl rfl
set_option maxRecDepth 20000 in
theorem gw_471 : Cond.code ({ cls := "java/lang/Math", name := "min", desc := "(II)I" }) prog_9_method_69_code (2) (Option.some Jvm.ClassFile.FieldType.int) ∈ gw := gw_in 471 rfl rfl
set_option maxRecDepth 20000 in
theorem gw_472 : Cond.methodLink "CurvePaths" (172) ({ cls := "CurvePaths", name := "greatest", desc := "([II)I" }) ∈ gw := gw_in 472 rfl rfl
set_option maxRecDepth 20000 in
theorem gw_473 : Cond.static ({ cls := "CurvePaths", name := "greatest", desc := "([II)I" }) ∈ gw := gw_in 473 rfl rfl
set_option maxRecDepth 20000 in
theorem gw_474 : Cond.code ({ cls := "CurvePaths", name := "greatest", desc := "([II)I" }) prog_1_method_27_code (4) (Option.some Jvm.ClassFile.FieldType.int) ∈ gw := gw_in 474 rfl rfl
set_option maxRecDepth 20000 in
theorem gw_475 : Cond.methodLink "CurvePaths" (208) ({ cls := "java/lang/Math", name := "max", desc := "(II)I" }) ∈ gw := gw_in 475 rfl rfl
set_option maxRecDepth 20000 in
theorem gw_476 : Cond.classLink "CurvePathsLaw" (10) "CurvePathsModel" ∈ gw := gw_in 476 rfl rfl
set_option maxRecDepth 20000 in
theorem gw_477 : Cond.instantiable "CurvePathsModel" (7) ∈ gw := gw_in 477 rfl rfl
set_option maxRecDepth 20000 in
theorem gw_478 : Cond.methodLink "CurvePathsLaw" (12) ({ cls := "CurvePathsModel", name := "<init>", desc := "()V" }) ∈ gw := gw_in 478 rfl rfl
set_option maxRecDepth 20000 in
theorem gw_479 : Cond.instanceMethod ({ cls := "CurvePathsModel", name := "<init>", desc := "()V" }) ∈ gw := gw_in 479 rfl rfl
set_option maxRecDepth 20000 in
theorem gw_480 : Cond.code ({ cls := "CurvePathsModel", name := "<init>", desc := "()V" }) prog_7_method_1_code (1) (Option.none : Option Jvm.ClassFile.FieldType) ∈ gw := gw_in 480 rfl rfl
set_option maxRecDepth 20000 in
theorem gw_481 : Cond.methodLink "CurvePathsModel" (1) ({ cls := "java/lang/Object", name := "<init>", desc := "()V" }) ∈ gw := gw_in 481 rfl rfl
set_option maxRecDepth 20000 in
theorem gw_482 : Cond.classLink "CurvePathsModel" (7) "CurvePathsModel$Path" ∈ gw := gw_in 482 rfl rfl
set_option maxRecDepth 20000 in
theorem gw_483 : Cond.instantiable "CurvePathsModel$Path" (5) ∈ gw := gw_in 483 rfl rfl
set_option maxRecDepth 20000 in
theorem gw_485 : Cond.instanceMethod ({ cls := "CurvePathsModel$Path", name := "<init>", desc := "()V" }) ∈ gw := gw_in 485 rfl rfl
set_option maxRecDepth 20000 in
theorem gw_486 : Cond.code ({ cls := "CurvePathsModel$Path", name := "<init>", desc := "()V" }) prog_8_method_1_code (1) (Option.none : Option Jvm.ClassFile.FieldType) ∈ gw := gw_in 486 rfl rfl
set_option maxRecDepth 20000 in
theorem gw_487 : Cond.methodLink "CurvePathsModel$Path" (3) ({ cls := "java/lang/Object", name := "<init>", desc := "()V" }) ∈ gw := gw_in 487 rfl rfl
set_option maxRecDepth 20000 in
theorem gw_488 : Cond.fieldLink "CurvePathsModel$Path" (9) "CurvePathsModel$Path" "kinds" "[B" ∈ gw := gw_in 488 rfl rfl
set_option maxRecDepth 20000 in
theorem gw_490 : Cond.fieldLink "CurvePathsModel$Path" (15) "CurvePathsModel$Path" "places" "[I" ∈ gw := gw_in 490 rfl rfl
set_option maxRecDepth 20000 in
theorem gw_491 : Cond.fieldLink "CurvePathsModel$Path" (19) "CurvePathsModel$Path" "size" "I" ∈ gw := gw_in 491 rfl rfl
set_option maxRecDepth 20000 in
theorem gw_493 : Cond.fieldLink "CurvePathsModel$Path" (23) "CurvePathsModel$Path" "full" "Z" ∈ gw := gw_in 493 rfl rfl
set_option maxRecDepth 20000 in
theorem gw_496 : Cond.fieldLink "CurvePathsModel$Path" (27) "CurvePathsModel$Path" "far" "Z" ∈ gw := gw_in 496 rfl rfl
set_option maxRecDepth 20000 in
theorem gw_508 : Cond.arrayClass Jvm.ClassFile.FieldType.byte ∈ gw := gw_in 508 rfl rfl
set_option maxRecDepth 20000 in
theorem gw_509 : Cond.fieldLink "CurvePathsModel" (10) "CurvePathsModel" "path" "LCurvePathsModel$Path;" ∈ gw := gw_in 509 rfl rfl
set_option maxRecDepth 20000 in
theorem gw_510 : Cond.fieldLink "CurvePathsModel" (16) "CurvePathsModel" "draft" "LCurvePathsModel$Path;" ∈ gw := gw_in 510 rfl rfl
set_option maxRecDepth 20000 in
theorem gw_511 : Cond.fieldLink "CurvePathsModel" (19) "CurvePathsModel" "axes" "[J" ∈ gw := gw_in 511 rfl rfl
set_option maxRecDepth 20000 in
theorem gw_512 : Cond.fieldLink "CurvePathsModel" (23) "CurvePathsModel" "unit" "[J" ∈ gw := gw_in 512 rfl rfl
set_option maxRecDepth 20000 in
theorem gw_513 : Cond.fieldLink "CurvePathsModel" (26) "CurvePathsModel" "before" "[J" ∈ gw := gw_in 513 rfl rfl
set_option maxRecDepth 20000 in
theorem gw_514 : Cond.fieldLink "CurvePathsModel" (29) "CurvePathsModel" "behind" "[J" ∈ gw := gw_in 514 rfl rfl
set_option maxRecDepth 20000 in
theorem gw_515 : Cond.fieldLink "CurvePathsModel" (32) "CurvePathsModel" "mixed" "[J" ∈ gw := gw_in 515 rfl rfl
set_option maxRecDepth 20000 in
theorem gw_531 : Cond.arrayClass Jvm.ClassFile.FieldType.long ∈ gw := gw_in 531 rfl rfl
set_option maxRecDepth 20000 in
theorem gw_532 : Cond.methodLink "CurvePathsLaw" (79) ({ cls := "CurvePathsModel", name := "isPoint", desc := "()Z" }) ∈ gw := gw_in 532 rfl rfl
set_option maxRecDepth 20000 in
theorem gw_533 : Cond.instanceMethod ({ cls := "CurvePathsModel", name := "isPoint", desc := "()Z" }) ∈ gw := gw_in 533 rfl rfl
set_option maxRecDepth 20000 in
theorem gw_534 : Cond.selects "CurvePathsModel" ({ cls := "CurvePathsModel", name := "isPoint", desc := "()Z" }) ({ cls := "CurvePathsModel", name := "isPoint", desc := "()Z" }) ∈ gw := gw_in 534 rfl rfl
set_option maxRecDepth 20000 in
theorem gw_535 : Cond.code ({ cls := "CurvePathsModel", name := "isPoint", desc := "()Z" }) prog_7_method_3_code (1) (Option.some Jvm.ClassFile.FieldType.boolean) ∈ gw := gw_in 535 rfl rfl
set_option maxRecDepth 20000 in
theorem gw_536 : Cond.methodLink "CurvePathsLaw" (74) ({ cls := "CurvePathsModel", name := "point", desc := "(I)I" }) ∈ gw := gw_in 536 rfl rfl
set_option maxRecDepth 20000 in
theorem gw_537 : Cond.instanceMethod ({ cls := "CurvePathsModel", name := "point", desc := "(I)I" }) ∈ gw := gw_in 537 rfl rfl
set_option maxRecDepth 20000 in
theorem gw_538 : Cond.selects "CurvePathsModel" ({ cls := "CurvePathsModel", name := "point", desc := "(I)I" }) ({ cls := "CurvePathsModel", name := "point", desc := "(I)I" }) ∈ gw := gw_in 538 rfl rfl
set_option maxRecDepth 20000 in
theorem gw_539 : Cond.code ({ cls := "CurvePathsModel", name := "point", desc := "(I)I" }) prog_7_method_4_code (2) (Option.some Jvm.ClassFile.FieldType.int) ∈ gw := gw_in 539 rfl rfl
set_option maxRecDepth 20000 in
theorem gw_540 : Cond.methodLink "CurvePathsModel" (46) ({ cls := "CurvePathsModel$Path", name := "get", desc := "(II)I" }) ∈ gw := gw_in 540 rfl rfl
set_option maxRecDepth 20000 in
theorem gw_541 : Cond.instanceMethod ({ cls := "CurvePathsModel$Path", name := "get", desc := "(II)I" }) ∈ gw := gw_in 541 rfl rfl
set_option maxRecDepth 20000 in
theorem gw_542 : Cond.selects "CurvePathsModel$Path" ({ cls := "CurvePathsModel$Path", name := "get", desc := "(II)I" }) ({ cls := "CurvePathsModel$Path", name := "get", desc := "(II)I" }) ∈ gw := gw_in 542 rfl rfl
set_option maxRecDepth 20000 in
theorem gw_543 : Cond.code ({ cls := "CurvePathsModel$Path", name := "get", desc := "(II)I" }) prog_8_method_4_code (3) (Option.some Jvm.ClassFile.FieldType.int) ∈ gw := gw_in 543 rfl rfl
set_option maxRecDepth 20000 in
theorem gw_544 : Cond.methodLink "CurvePathsLaw" (17) ({ cls := "CurvePathsModel", name := "move", desc := "(II)I" }) ∈ gw := gw_in 544 rfl rfl
set_option maxRecDepth 20000 in
theorem gw_545 : Cond.instanceMethod ({ cls := "CurvePathsModel", name := "move", desc := "(II)I" }) ∈ gw := gw_in 545 rfl rfl
set_option maxRecDepth 20000 in
theorem gw_546 : Cond.selects "CurvePathsModel" ({ cls := "CurvePathsModel", name := "move", desc := "(II)I" }) ({ cls := "CurvePathsModel", name := "move", desc := "(II)I" }) ∈ gw := gw_in 546 rfl rfl
set_option maxRecDepth 20000 in
theorem gw_547 : Cond.code ({ cls := "CurvePathsModel", name := "move", desc := "(II)I" }) prog_7_method_5_code (3) (Option.some Jvm.ClassFile.FieldType.int) ∈ gw := gw_in 547 rfl rfl
set_option maxRecDepth 20000 in
theorem gw_548 : Cond.methodLink "CurvePathsModel" (50) ({ cls := "CurvePathsModel$Path", name := "copy", desc := "(LCurvePathsModel$Path;)V" }) ∈ gw := gw_in 548 rfl rfl
set_option maxRecDepth 20000 in
theorem gw_549 : Cond.instanceMethod ({ cls := "CurvePathsModel$Path", name := "copy", desc := "(LCurvePathsModel$Path;)V" }) ∈ gw := gw_in 549 rfl rfl
set_option maxRecDepth 20000 in
theorem gw_550 : Cond.selects "CurvePathsModel$Path" ({ cls := "CurvePathsModel$Path", name := "copy", desc := "(LCurvePathsModel$Path;)V" }) ({ cls := "CurvePathsModel$Path", name := "copy", desc := "(LCurvePathsModel$Path;)V" }) ∈ gw := gw_in 550 rfl rfl
set_option maxRecDepth 20000 in
theorem gw_551 : Cond.code ({ cls := "CurvePathsModel$Path", name := "copy", desc := "(LCurvePathsModel$Path;)V" }) prog_8_method_3_code (3) (Option.none : Option Jvm.ClassFile.FieldType) ∈ gw := gw_in 551 rfl rfl
set_option maxRecDepth 20000 in
theorem gw_552 : Cond.methodLink "CurvePathsModel$Path" (30) ({ cls := "CurvePathsModel$Path", name := "empty", desc := "()V" }) ∈ gw := gw_in 552 rfl rfl
set_option maxRecDepth 20000 in
theorem gw_553 : Cond.instanceMethod ({ cls := "CurvePathsModel$Path", name := "empty", desc := "()V" }) ∈ gw := gw_in 553 rfl rfl
set_option maxRecDepth 20000 in
theorem gw_554 : Cond.selects "CurvePathsModel$Path" ({ cls := "CurvePathsModel$Path", name := "empty", desc := "()V" }) ({ cls := "CurvePathsModel$Path", name := "empty", desc := "()V" }) ∈ gw := gw_in 554 rfl rfl
set_option maxRecDepth 20000 in
theorem gw_555 : Cond.code ({ cls := "CurvePathsModel$Path", name := "empty", desc := "()V" }) prog_8_method_2_code (1) (Option.none : Option Jvm.ClassFile.FieldType) ∈ gw := gw_in 555 rfl rfl
set_option maxRecDepth 20000 in
theorem gw_556 : Cond.methodLink "CurvePathsModel" (54) ({ cls := "CurvePathsModel$Path", name := "begin", desc := "(JJ)V" }) ∈ gw := gw_in 556 rfl rfl
set_option maxRecDepth 20000 in
theorem gw_557 : Cond.instanceMethod ({ cls := "CurvePathsModel$Path", name := "begin", desc := "(JJ)V" }) ∈ gw := gw_in 557 rfl rfl
set_option maxRecDepth 20000 in
theorem gw_558 : Cond.selects "CurvePathsModel$Path" ({ cls := "CurvePathsModel$Path", name := "begin", desc := "(JJ)V" }) ({ cls := "CurvePathsModel$Path", name := "begin", desc := "(JJ)V" }) ∈ gw := gw_in 558 rfl rfl
set_option maxRecDepth 20000 in
theorem gw_559 : Cond.code ({ cls := "CurvePathsModel$Path", name := "begin", desc := "(JJ)V" }) prog_8_method_10_code (5) (Option.none : Option Jvm.ClassFile.FieldType) ∈ gw := gw_in 559 rfl rfl
set_option maxRecDepth 20000 in
theorem gw_560 : Cond.methodLink "CurvePathsModel$Path" (49) ({ cls := "CurvePathsModel$Path", name := "addPoint", desc := "(IJJ)V" }) ∈ gw := gw_in 560 rfl rfl
set_option maxRecDepth 20000 in
theorem gw_561 : Cond.instanceMethod ({ cls := "CurvePathsModel$Path", name := "addPoint", desc := "(IJJ)V" }) ∈ gw := gw_in 561 rfl rfl
set_option maxRecDepth 20000 in
theorem gw_562 : Cond.selects "CurvePathsModel$Path" ({ cls := "CurvePathsModel$Path", name := "addPoint", desc := "(IJJ)V" }) ({ cls := "CurvePathsModel$Path", name := "addPoint", desc := "(IJJ)V" }) ∈ gw := gw_in 562 rfl rfl
set_option maxRecDepth 20000 in
theorem gw_563 : Cond.code ({ cls := "CurvePathsModel$Path", name := "addPoint", desc := "(IJJ)V" }) prog_8_method_7_code (6) (Option.none : Option Jvm.ClassFile.FieldType) ∈ gw := gw_in 563 rfl rfl
set_option maxRecDepth 20000 in
theorem gw_564 : Cond.methodLink "CurvePathsModel$Path" (41) ({ cls := "CurvePathsModel$Path", name := "add", desc := "(IJJJJJJ)V" }) ∈ gw := gw_in 564 rfl rfl
set_option maxRecDepth 20000 in
theorem gw_565 : Cond.instanceMethod ({ cls := "CurvePathsModel$Path", name := "add", desc := "(IJJJJJJ)V" }) ∈ gw := gw_in 565 rfl rfl
set_option maxRecDepth 20000 in
theorem gw_566 : Cond.selects "CurvePathsModel$Path" ({ cls := "CurvePathsModel$Path", name := "add", desc := "(IJJJJJJ)V" }) ({ cls := "CurvePathsModel$Path", name := "add", desc := "(IJJJJJJ)V" }) ∈ gw := gw_in 566 rfl rfl
set_option maxRecDepth 20000 in
theorem gw_567 : Cond.code ({ cls := "CurvePathsModel$Path", name := "add", desc := "(IJJJJJJ)V" }) prog_8_method_6_code (14) (Option.none : Option Jvm.ClassFile.FieldType) ∈ gw := gw_in 567 rfl rfl
set_option maxRecDepth 20000 in
theorem gw_568 : Cond.methodLink "CurvePathsModel$Path" (37) ({ cls := "CurvePathsModel$Path", name := "isFar", desc := "(J)Z" }) ∈ gw := gw_in 568 rfl rfl
set_option maxRecDepth 20000 in
theorem gw_569 : Cond.static ({ cls := "CurvePathsModel$Path", name := "isFar", desc := "(J)Z" }) ∈ gw := gw_in 569 rfl rfl
set_option maxRecDepth 20000 in
theorem gw_570 : Cond.code ({ cls := "CurvePathsModel$Path", name := "isFar", desc := "(J)Z" }) prog_8_method_5_code (2) (Option.some Jvm.ClassFile.FieldType.boolean) ∈ gw := gw_in 570 rfl rfl
set_option maxRecDepth 20000 in
theorem gw_571 : Cond.constantLong "CurvePathsModel$Path" (33) (-536870912 : Int64) ∈ gw := gw_in 571 rfl rfl
set_option maxRecDepth 20000 in
theorem gw_572 : Cond.constantLong "CurvePathsModel$Path" (35) (536870912 : Int64) ∈ gw := gw_in 572 rfl rfl
set_option maxRecDepth 20000 in
theorem gw_573 : Cond.methodLink "CurvePathsModel" (58) ({ cls := "CurvePathsModel", name := "settle", desc := "()I" }) ∈ gw := gw_in 573 rfl rfl
set_option maxRecDepth 20000 in
theorem gw_575 : Cond.instanceMethod ({ cls := "CurvePathsModel", name := "settle", desc := "()I" }) ∈ gw := gw_in 575 rfl rfl
set_option maxRecDepth 20000 in
theorem gw_576 : Cond.code ({ cls := "CurvePathsModel", name := "settle", desc := "()I" }) prog_7_method_2_code (2) (Option.some Jvm.ClassFile.FieldType.int) ∈ gw := gw_in 576 rfl rfl
set_option maxRecDepth 20000 in
theorem gw_577 : Cond.methodLink "CurvePathsLaw" (21) ({ cls := "CurvePathsModel", name := "line", desc := "(II)I" }) ∈ gw := gw_in 577 rfl rfl
set_option maxRecDepth 20000 in
theorem gw_578 : Cond.instanceMethod ({ cls := "CurvePathsModel", name := "line", desc := "(II)I" }) ∈ gw := gw_in 578 rfl rfl
set_option maxRecDepth 20000 in
theorem gw_579 : Cond.selects "CurvePathsModel" ({ cls := "CurvePathsModel", name := "line", desc := "(II)I" }) ({ cls := "CurvePathsModel", name := "line", desc := "(II)I" }) ∈ gw := gw_in 579 rfl rfl
set_option maxRecDepth 20000 in
theorem gw_580 : Cond.code ({ cls := "CurvePathsModel", name := "line", desc := "(II)I" }) prog_7_method_6_code (3) (Option.some Jvm.ClassFile.FieldType.int) ∈ gw := gw_in 580 rfl rfl
set_option maxRecDepth 20000 in
theorem gw_581 : Cond.methodLink "CurvePathsModel" (62) ({ cls := "CurvePathsModel", name := "isPoint", desc := "()Z" }) ∈ gw := gw_in 581 rfl rfl
set_option maxRecDepth 20000 in
theorem gw_582 : Cond.methodLink "CurvePathsModel" (66) ({ cls := "CurvePathsModel$Path", name := "open", desc := "()V" }) ∈ gw := gw_in 582 rfl rfl
set_option maxRecDepth 20000 in
theorem gw_583 : Cond.instanceMethod ({ cls := "CurvePathsModel$Path", name := "open", desc := "()V" }) ∈ gw := gw_in 583 rfl rfl
set_option maxRecDepth 20000 in
theorem gw_584 : Cond.selects "CurvePathsModel$Path" ({ cls := "CurvePathsModel$Path", name := "open", desc := "()V" }) ({ cls := "CurvePathsModel$Path", name := "open", desc := "()V" }) ∈ gw := gw_in 584 rfl rfl
set_option maxRecDepth 20000 in
theorem gw_585 : Cond.code ({ cls := "CurvePathsModel$Path", name := "open", desc := "()V" }) prog_8_method_9_code (1) (Option.none : Option Jvm.ClassFile.FieldType) ∈ gw := gw_in 585 rfl rfl
set_option maxRecDepth 20000 in
theorem gw_586 : Cond.methodLink "CurvePathsModel$Path" (45) ({ cls := "CurvePathsModel$Path", name := "get", desc := "(II)I" }) ∈ gw := gw_in 586 rfl rfl
set_option maxRecDepth 20000 in
theorem gw_587 : Cond.methodLink "CurvePathsModel" (69) ({ cls := "CurvePathsModel$Path", name := "addPoint", desc := "(IJJ)V" }) ∈ gw := gw_in 587 rfl rfl
set_option maxRecDepth 20000 in
theorem gw_588 : Cond.methodLink "CurvePathsLaw" (26) ({ cls := "CurvePathsModel", name := "curve", desc := "(IIIIII)I" }) ∈ gw := gw_in 588 rfl rfl
set_option maxRecDepth 20000 in
theorem gw_589 : Cond.instanceMethod ({ cls := "CurvePathsModel", name := "curve", desc := "(IIIIII)I" }) ∈ gw := gw_in 589 rfl rfl
set_option maxRecDepth 20000 in
theorem gw_590 : Cond.selects "CurvePathsModel" ({ cls := "CurvePathsModel", name := "curve", desc := "(IIIIII)I" }) ({ cls := "CurvePathsModel", name := "curve", desc := "(IIIIII)I" }) ∈ gw := gw_in 590 rfl rfl
set_option maxRecDepth 20000 in
theorem gw_591 : Cond.code ({ cls := "CurvePathsModel", name := "curve", desc := "(IIIIII)I" }) prog_7_method_7_code (7) (Option.some Jvm.ClassFile.FieldType.int) ∈ gw := gw_in 591 rfl rfl
set_option maxRecDepth 20000 in
theorem gw_592 : Cond.methodLink "CurvePathsModel" (73) ({ cls := "CurvePathsModel$Path", name := "add", desc := "(IJJJJJJ)V" }) ∈ gw := gw_in 592 rfl rfl
set_option maxRecDepth 20000 in
theorem gw_593 : Cond.methodLink "CurvePathsLaw" (31) ({ cls := "CurvePathsModel", name := "close", desc := "()I" }) ∈ gw := gw_in 593 rfl rfl
set_option maxRecDepth 20000 in
theorem gw_594 : Cond.instanceMethod ({ cls := "CurvePathsModel", name := "close", desc := "()I" }) ∈ gw := gw_in 594 rfl rfl
set_option maxRecDepth 20000 in
theorem gw_595 : Cond.selects "CurvePathsModel" ({ cls := "CurvePathsModel", name := "close", desc := "()I" }) ({ cls := "CurvePathsModel", name := "close", desc := "()I" }) ∈ gw := gw_in 595 rfl rfl
set_option maxRecDepth 20000 in
theorem gw_596 : Cond.code ({ cls := "CurvePathsModel", name := "close", desc := "()I" }) prog_7_method_8_code (2) (Option.some Jvm.ClassFile.FieldType.int) ∈ gw := gw_in 596 rfl rfl
set_option maxRecDepth 20000 in
theorem gw_597 : Cond.methodLink "CurvePathsModel" (81) ({ cls := "CurvePathsModel$Path", name := "first", desc := "(I)I" }) ∈ gw := gw_in 597 rfl rfl
set_option maxRecDepth 20000 in
theorem gw_598 : Cond.instanceMethod ({ cls := "CurvePathsModel$Path", name := "first", desc := "(I)I" }) ∈ gw := gw_in 598 rfl rfl
set_option maxRecDepth 20000 in
theorem gw_599 : Cond.selects "CurvePathsModel$Path" ({ cls := "CurvePathsModel$Path", name := "first", desc := "(I)I" }) ({ cls := "CurvePathsModel$Path", name := "first", desc := "(I)I" }) ∈ gw := gw_in 599 rfl rfl
set_option maxRecDepth 20000 in
theorem gw_600 : Cond.code ({ cls := "CurvePathsModel$Path", name := "first", desc := "(I)I" }) prog_8_method_8_code (3) (Option.some Jvm.ClassFile.FieldType.int) ∈ gw := gw_in 600 rfl rfl
set_option maxRecDepth 20000 in
theorem gw_601 : Cond.methodLink "CurvePathsLaw" (58) ({ cls := "CurvePathsModel", name := "clear", desc := "()I" }) ∈ gw := gw_in 601 rfl rfl
set_option maxRecDepth 20000 in
theorem gw_602 : Cond.instanceMethod ({ cls := "CurvePathsModel", name := "clear", desc := "()I" }) ∈ gw := gw_in 602 rfl rfl
set_option maxRecDepth 20000 in
theorem gw_603 : Cond.selects "CurvePathsModel" ({ cls := "CurvePathsModel", name := "clear", desc := "()I" }) ({ cls := "CurvePathsModel", name := "clear", desc := "()I" }) ∈ gw := gw_in 603 rfl rfl
set_option maxRecDepth 20000 in
theorem gw_604 : Cond.code ({ cls := "CurvePathsModel", name := "clear", desc := "()I" }) prog_7_method_9_code (2) (Option.some Jvm.ClassFile.FieldType.int) ∈ gw := gw_in 604 rfl rfl
set_option maxRecDepth 20000 in
theorem gw_605 : Cond.methodLink "CurvePathsModel" (85) ({ cls := "CurvePathsModel$Path", name := "empty", desc := "()V" }) ∈ gw := gw_in 605 rfl rfl
set_option maxRecDepth 20000 in
theorem gw_606 : Cond.methodLink "CurvePathsLaw" (36) ({ cls := "CurvePathsModel", name := "axes", desc := "(IIII)Z" }) ∈ gw := gw_in 606 rfl rfl
set_option maxRecDepth 20000 in
theorem gw_607 : Cond.instanceMethod ({ cls := "CurvePathsModel", name := "axes", desc := "(IIII)Z" }) ∈ gw := gw_in 607 rfl rfl
set_option maxRecDepth 20000 in
theorem gw_608 : Cond.selects "CurvePathsModel" ({ cls := "CurvePathsModel", name := "axes", desc := "(IIII)Z" }) ({ cls := "CurvePathsModel", name := "axes", desc := "(IIII)Z" }) ∈ gw := gw_in 608 rfl rfl
set_option maxRecDepth 20000 in
theorem gw_609 : Cond.code ({ cls := "CurvePathsModel", name := "axes", desc := "(IIII)Z" }) prog_7_method_10_code (5) (Option.some Jvm.ClassFile.FieldType.boolean) ∈ gw := gw_in 609 rfl rfl
set_option maxRecDepth 20000 in
theorem gw_611 : Cond.methodLink "CurvePathsLaw" (41) ({ cls := "CurvePathsModel", name := "arc", desc := "(IIIII)I" }) ∈ gw := gw_in 611 rfl rfl
set_option maxRecDepth 20000 in
theorem gw_612 : Cond.instanceMethod ({ cls := "CurvePathsModel", name := "arc", desc := "(IIIII)I" }) ∈ gw := gw_in 612 rfl rfl
set_option maxRecDepth 20000 in
theorem gw_613 : Cond.selects "CurvePathsModel" ({ cls := "CurvePathsModel", name := "arc", desc := "(IIIII)I" }) ({ cls := "CurvePathsModel", name := "arc", desc := "(IIIII)I" }) ∈ gw := gw_in 613 rfl rfl
set_option maxRecDepth 20000 in
theorem gw_614 : Cond.code ({ cls := "CurvePathsModel", name := "arc", desc := "(IIIII)I" }) prog_7_method_22_code (8) (Option.some Jvm.ClassFile.FieldType.int) ∈ gw := gw_in 614 rfl rfl
set_option maxRecDepth 20000 in
theorem gw_615 : Cond.constantLong "CurvePathsModel" (153) (23592960 : Int64) ∈ gw := gw_in 615 rfl rfl
set_option maxRecDepth 20000 in
theorem gw_616 : Cond.methodLink "CurvePathsModel" (104) ({ cls := "java/lang/Math", name := "floorDiv", desc := "(JJ)J" }) ∈ gw := gw_in 616 rfl rfl
set_option maxRecDepth 20000 in
theorem gw_617 : Cond.constantLong "CurvePathsModel" (155) (235929600 : Int64) ∈ gw := gw_in 617 rfl rfl
set_option maxRecDepth 20000 in
theorem gw_618 : Cond.methodLink "CurvePathsModel" (157) ({ cls := "CurvePathsModel", name := "addArc", desc := "(JJJJZ)V" }) ∈ gw := gw_in 618 rfl rfl
set_option maxRecDepth 20000 in
theorem gw_620 : Cond.instanceMethod ({ cls := "CurvePathsModel", name := "addArc", desc := "(JJJJZ)V" }) ∈ gw := gw_in 620 rfl rfl
set_option maxRecDepth 20000 in
theorem gw_621 : Cond.code ({ cls := "CurvePathsModel", name := "addArc", desc := "(JJJJZ)V" }) prog_7_method_21_code (19) (Option.none : Option Jvm.ClassFile.FieldType) ∈ gw := gw_in 621 rfl rfl
set_option maxRecDepth 20000 in
theorem gw_622 : Cond.constantLong "CurvePathsModel" (92) (5898240 : Int64) ∈ gw := gw_in 622 rfl rfl
set_option maxRecDepth 20000 in
theorem gw_623 : Cond.methodLink "CurvePathsModel" (133) ({ cls := "CurvePathsModel", name := "from", desc := "(JJ)J" }) ∈ gw := gw_in 623 rfl rfl
set_option maxRecDepth 20000 in
theorem gw_624 : Cond.static ({ cls := "CurvePathsModel", name := "from", desc := "(JJ)J" }) ∈ gw := gw_in 624 rfl rfl
set_option maxRecDepth 20000 in
theorem gw_625 : Cond.code ({ cls := "CurvePathsModel", name := "from", desc := "(JJ)J" }) prog_7_method_19_code (4) (Option.some Jvm.ClassFile.FieldType.long) ∈ gw := gw_in 625 rfl rfl
set_option maxRecDepth 20000 in
theorem gw_626 : Cond.methodLink "CurvePathsModel" (129) ({ cls := "CurvePathsModel", name := "placeOf", desc := "(J)J" }) ∈ gw := gw_in 626 rfl rfl
set_option maxRecDepth 20000 in
theorem gw_627 : Cond.static ({ cls := "CurvePathsModel", name := "placeOf", desc := "(J)J" }) ∈ gw := gw_in 627 rfl rfl
set_option maxRecDepth 20000 in
theorem gw_628 : Cond.code ({ cls := "CurvePathsModel", name := "placeOf", desc := "(J)J" }) prog_7_method_11_code (2) (Option.some Jvm.ClassFile.FieldType.long) ∈ gw := gw_in 628 rfl rfl
set_option maxRecDepth 20000 in
theorem gw_629 : Cond.methodLink "CurvePathsModel" (94) ({ cls := "java/lang/Math", name := "floorMod", desc := "(JJ)J" }) ∈ gw := gw_in 629 rfl rfl
set_option maxRecDepth 20000 in
theorem gw_630 : Cond.constantLong "CurvePathsModel" (100) (45 : Int64) ∈ gw := gw_in 630 rfl rfl
set_option maxRecDepth 20000 in
theorem gw_631 : Cond.constantLong "CurvePathsModel" (102) (90 : Int64) ∈ gw := gw_in 631 rfl rfl
set_option maxRecDepth 20000 in
theorem gw_632 : Cond.methodLink "CurvePathsModel" (136) ({ cls := "CurvePathsModel", name := "to", desc := "(JJ)J" }) ∈ gw := gw_in 632 rfl rfl
set_option maxRecDepth 20000 in
theorem gw_633 : Cond.static ({ cls := "CurvePathsModel", name := "to", desc := "(JJ)J" }) ∈ gw := gw_in 633 rfl rfl
set_option maxRecDepth 20000 in
theorem gw_634 : Cond.code ({ cls := "CurvePathsModel", name := "to", desc := "(JJ)J" }) prog_7_method_20_code (4) (Option.some Jvm.ClassFile.FieldType.long) ∈ gw := gw_in 634 rfl rfl
set_option maxRecDepth 20000 in
theorem gw_635 : Cond.constantLong "CurvePathsModel" (107) (65536 : Int64) ∈ gw := gw_in 635 rfl rfl
set_option maxRecDepth 20000 in
theorem gw_636 : Cond.methodLink "CurvePathsModel" (139) ({ cls := "CurvePathsModel", name := "quarter", desc := "(J)V" }) ∈ gw := gw_in 636 rfl rfl
set_option maxRecDepth 20000 in
theorem gw_638 : Cond.instanceMethod ({ cls := "CurvePathsModel", name := "quarter", desc := "(J)V" }) ∈ gw := gw_in 638 rfl rfl
set_option maxRecDepth 20000 in
theorem gw_639 : Cond.code ({ cls := "CurvePathsModel", name := "quarter", desc := "(J)V" }) prog_7_method_12_code (7) (Option.none : Option Jvm.ClassFile.FieldType) ∈ gw := gw_in 639 rfl rfl
set_option maxRecDepth 20000 in
theorem gw_640 : Cond.constantLong "CurvePathsModel" (109) (36195 : Int64) ∈ gw := gw_in 640 rfl rfl
set_option maxRecDepth 20000 in
theorem gw_641 : Cond.constantLong "CurvePathsModel" (111) (4 : Int64) ∈ gw := gw_in 641 rfl rfl
set_option maxRecDepth 20000 in
theorem gw_642 : Cond.methodLink "CurvePathsModel" (142) ({ cls := "CurvePathsModel", name := "cut", desc := "(JJ)V" }) ∈ gw := gw_in 642 rfl rfl
set_option maxRecDepth 20000 in
theorem gw_644 : Cond.instanceMethod ({ cls := "CurvePathsModel", name := "cut", desc := "(JJ)V" }) ∈ gw := gw_in 644 rfl rfl
set_option maxRecDepth 20000 in
theorem gw_645 : Cond.code ({ cls := "CurvePathsModel", name := "cut", desc := "(JJ)V" }) prog_7_method_15_code (6) (Option.none : Option Jvm.ClassFile.FieldType) ∈ gw := gw_in 645 rfl rfl
set_option maxRecDepth 20000 in
theorem gw_646 : Cond.methodLink "CurvePathsModel" (119) ({ cls := "CurvePathsModel", name := "part", desc := "(J)V" }) ∈ gw := gw_in 646 rfl rfl
set_option maxRecDepth 20000 in
theorem gw_648 : Cond.instanceMethod ({ cls := "CurvePathsModel", name := "part", desc := "(J)V" }) ∈ gw := gw_in 648 rfl rfl
set_option maxRecDepth 20000 in
theorem gw_649 : Cond.code ({ cls := "CurvePathsModel", name := "part", desc := "(J)V" }) prog_7_method_14_code (5) (Option.none : Option Jvm.ClassFile.FieldType) ∈ gw := gw_in 649 rfl rfl
set_option maxRecDepth 20000 in
theorem gw_650 : Cond.methodLink "CurvePathsModel" (115) ({ cls := "CurvePathsModel", name := "mix", desc := "(JJJ)J" }) ∈ gw := gw_in 650 rfl rfl
set_option maxRecDepth 20000 in
theorem gw_651 : Cond.static ({ cls := "CurvePathsModel", name := "mix", desc := "(JJJ)J" }) ∈ gw := gw_in 651 rfl rfl
set_option maxRecDepth 20000 in
theorem gw_652 : Cond.code ({ cls := "CurvePathsModel", name := "mix", desc := "(JJJ)J" }) prog_7_method_13_code (6) (Option.some Jvm.ClassFile.FieldType.long) ∈ gw := gw_in 652 rfl rfl
set_option maxRecDepth 20000 in
theorem gw_653 : Cond.constantLong "CurvePathsModel" (113) (32768 : Int64) ∈ gw := gw_in 653 rfl rfl
set_option maxRecDepth 20000 in
theorem gw_654 : Cond.constantLong "CurvePathsModel" (123) (2 : Int64) ∈ gw := gw_in 654 rfl rfl
set_option maxRecDepth 20000 in
theorem gw_655 : Cond.methodLink "CurvePathsModel" (145) ({ cls := "CurvePathsModel", name := "beginArc", desc := "(JJJJ)V" }) ∈ gw := gw_in 655 rfl rfl
set_option maxRecDepth 20000 in
theorem gw_657 : Cond.instanceMethod ({ cls := "CurvePathsModel", name := "beginArc", desc := "(JJJJ)V" }) ∈ gw := gw_in 657 rfl rfl
set_option maxRecDepth 20000 in
theorem gw_658 : Cond.code ({ cls := "CurvePathsModel", name := "beginArc", desc := "(JJJJ)V" }) prog_7_method_17_code (13) (Option.none : Option Jvm.ClassFile.FieldType) ∈ gw := gw_in 658 rfl rfl
set_option maxRecDepth 20000 in
theorem gw_659 : Cond.methodLink "CurvePathsModel" (125) ({ cls := "CurvePathsModel", name := "around", desc := "(JJJI)J" }) ∈ gw := gw_in 659 rfl rfl
set_option maxRecDepth 20000 in
theorem gw_661 : Cond.instanceMethod ({ cls := "CurvePathsModel", name := "around", desc := "(JJJI)J" }) ∈ gw := gw_in 661 rfl rfl
set_option maxRecDepth 20000 in
theorem gw_662 : Cond.code ({ cls := "CurvePathsModel", name := "around", desc := "(JJJI)J" }) prog_7_method_16_code (8) (Option.some Jvm.ClassFile.FieldType.long) ∈ gw := gw_in 662 rfl rfl
set_option maxRecDepth 20000 in
theorem gw_663 : Cond.methodLink "CurvePathsModel" (149) ({ cls := "CurvePathsModel", name := "addCurve", desc := "(JJZ)V" }) ∈ gw := gw_in 663 rfl rfl
set_option maxRecDepth 20000 in
theorem gw_665 : Cond.instanceMethod ({ cls := "CurvePathsModel", name := "addCurve", desc := "(JJZ)V" }) ∈ gw := gw_in 665 rfl rfl
set_option maxRecDepth 20000 in
theorem gw_666 : Cond.code ({ cls := "CurvePathsModel", name := "addCurve", desc := "(JJZ)V" }) prog_7_method_18_code (9) (Option.none : Option Jvm.ClassFile.FieldType) ∈ gw := gw_in 666 rfl rfl
set_option maxRecDepth 20000 in
theorem gw_667 : Cond.methodLink "CurvePathsLaw" (45) ({ cls := "CurvePathsModel", name := "shift", desc := "(II)I" }) ∈ gw := gw_in 667 rfl rfl
set_option maxRecDepth 20000 in
theorem gw_668 : Cond.instanceMethod ({ cls := "CurvePathsModel", name := "shift", desc := "(II)I" }) ∈ gw := gw_in 668 rfl rfl
set_option maxRecDepth 20000 in
theorem gw_669 : Cond.selects "CurvePathsModel" ({ cls := "CurvePathsModel", name := "shift", desc := "(II)I" }) ({ cls := "CurvePathsModel", name := "shift", desc := "(II)I" }) ∈ gw := gw_in 669 rfl rfl
set_option maxRecDepth 20000 in
theorem gw_670 : Cond.code ({ cls := "CurvePathsModel", name := "shift", desc := "(II)I" }) prog_7_method_23_code (5) (Option.some Jvm.ClassFile.FieldType.int) ∈ gw := gw_in 670 rfl rfl
set_option maxRecDepth 20000 in
theorem gw_671 : Cond.methodLink "CurvePathsLaw" (49) ({ cls := "CurvePathsModel", name := "reverse", desc := "()I" }) ∈ gw := gw_in 671 rfl rfl
set_option maxRecDepth 20000 in
theorem gw_672 : Cond.instanceMethod ({ cls := "CurvePathsModel", name := "reverse", desc := "()I" }) ∈ gw := gw_in 672 rfl rfl
set_option maxRecDepth 20000 in
theorem gw_673 : Cond.selects "CurvePathsModel" ({ cls := "CurvePathsModel", name := "reverse", desc := "()I" }) ({ cls := "CurvePathsModel", name := "reverse", desc := "()I" }) ∈ gw := gw_in 673 rfl rfl
set_option maxRecDepth 20000 in
theorem gw_674 : Cond.code ({ cls := "CurvePathsModel", name := "reverse", desc := "()I" }) prog_7_method_24_code (3) (Option.some Jvm.ClassFile.FieldType.int) ∈ gw := gw_in 674 rfl rfl
set_option maxRecDepth 20000 in
theorem gw_675 : Cond.methodLink "CurvePathsModel" (161) ({ cls := "CurvePathsModel", name := "turn", desc := "(II)V" }) ∈ gw := gw_in 675 rfl rfl
set_option maxRecDepth 20000 in
theorem gw_677 : Cond.instanceMethod ({ cls := "CurvePathsModel", name := "turn", desc := "(II)V" }) ∈ gw := gw_in 677 rfl rfl
set_option maxRecDepth 20000 in
theorem gw_678 : Cond.code ({ cls := "CurvePathsModel", name := "turn", desc := "(II)V" }) prog_7_method_25_code (7) (Option.none : Option Jvm.ClassFile.FieldType) ∈ gw := gw_in 678 rfl rfl
set_option maxRecDepth 20000 in
theorem gw_679 : Cond.methodLink "CurvePathsLaw" (54) ({ cls := "CurvePathsModel", name := "flatten", desc := "(I)I" }) ∈ gw := gw_in 679 rfl rfl
set_option maxRecDepth 20000 in
theorem gw_680 : Cond.instanceMethod ({ cls := "CurvePathsModel", name := "flatten", desc := "(I)I" }) ∈ gw := gw_in 680 rfl rfl
set_option maxRecDepth 20000 in
theorem gw_681 : Cond.selects "CurvePathsModel" ({ cls := "CurvePathsModel", name := "flatten", desc := "(I)I" }) ({ cls := "CurvePathsModel", name := "flatten", desc := "(I)I" }) ∈ gw := gw_in 681 rfl rfl
set_option maxRecDepth 20000 in
theorem gw_682 : Cond.code ({ cls := "CurvePathsModel", name := "flatten", desc := "(I)I" }) prog_7_method_28_code (3) (Option.some Jvm.ClassFile.FieldType.int) ∈ gw := gw_in 682 rfl rfl
set_option maxRecDepth 20000 in
theorem gw_683 : Cond.constant "CurvePathsModel" (178) (6553600 : Int32) ∈ gw := gw_in 683 rfl rfl
set_option maxRecDepth 20000 in
theorem gw_684 : Cond.methodLink "CurvePathsModel" (174) ({ cls := "CurvePathsModel", name := "lay", desc := "(LCurvePathsModel$Path;JJJJJJJJII)V" }) ∈ gw := gw_in 684 rfl rfl
set_option maxRecDepth 20000 in
theorem gw_685 : Cond.static ({ cls := "CurvePathsModel", name := "lay", desc := "(LCurvePathsModel$Path;JJJJJJJJII)V" }) ∈ gw := gw_in 685 rfl rfl
set_option maxRecDepth 20000 in
theorem gw_686 : Cond.code ({ cls := "CurvePathsModel", name := "lay", desc := "(LCurvePathsModel$Path;JJJJJJJJII)V" }) prog_7_method_27_code (43) (Option.none : Option Jvm.ClassFile.FieldType) ∈ gw := gw_in 686 rfl rfl
set_option maxRecDepth 20000 in
theorem gw_687 : Cond.methodLink "CurvePathsModel" (170) ({ cls := "CurvePathsModel", name := "isStraight", desc := "(JJJI)Z" }) ∈ gw := gw_in 687 rfl rfl
set_option maxRecDepth 20000 in
theorem gw_688 : Cond.static ({ cls := "CurvePathsModel", name := "isStraight", desc := "(JJJI)Z" }) ∈ gw := gw_in 688 rfl rfl
set_option maxRecDepth 20000 in
theorem gw_689 : Cond.code ({ cls := "CurvePathsModel", name := "isStraight", desc := "(JJJI)Z" }) prog_7_method_26_code (7) (Option.some Jvm.ClassFile.FieldType.boolean) ∈ gw := gw_in 689 rfl rfl
set_option maxRecDepth 20000 in
theorem gw_690 : Cond.constantLong "CurvePathsModel" (165) (3 : Int64) ∈ gw := gw_in 690 rfl rfl
set_option maxRecDepth 20000 in
theorem gw_691 : Cond.methodLink "CurvePathsModel" (167) ({ cls := "java/lang/Math", name := "abs", desc := "(J)J" }) ∈ gw := gw_in 691 rfl rfl
set_option maxRecDepth 20000 in
theorem gw_692 : Cond.methodLink "CurvePathsLaw" (62) ({ cls := "CurvePathsModel", name := "parts", desc := "()I" }) ∈ gw := gw_in 692 rfl rfl
set_option maxRecDepth 20000 in
theorem gw_693 : Cond.instanceMethod ({ cls := "CurvePathsModel", name := "parts", desc := "()I" }) ∈ gw := gw_in 693 rfl rfl
set_option maxRecDepth 20000 in
theorem gw_694 : Cond.selects "CurvePathsModel" ({ cls := "CurvePathsModel", name := "parts", desc := "()I" }) ({ cls := "CurvePathsModel", name := "parts", desc := "()I" }) ∈ gw := gw_in 694 rfl rfl
set_option maxRecDepth 20000 in
theorem gw_695 : Cond.code ({ cls := "CurvePathsModel", name := "parts", desc := "()I" }) prog_7_method_29_code (1) (Option.some Jvm.ClassFile.FieldType.int) ∈ gw := gw_in 695 rfl rfl
set_option maxRecDepth 20000 in
theorem gw_696 : Cond.methodLink "CurvePathsLaw" (66) ({ cls := "CurvePathsModel", name := "kind", desc := "(I)I" }) ∈ gw := gw_in 696 rfl rfl
set_option maxRecDepth 20000 in
theorem gw_697 : Cond.instanceMethod ({ cls := "CurvePathsModel", name := "kind", desc := "(I)I" }) ∈ gw := gw_in 697 rfl rfl
set_option maxRecDepth 20000 in
theorem gw_698 : Cond.selects "CurvePathsModel" ({ cls := "CurvePathsModel", name := "kind", desc := "(I)I" }) ({ cls := "CurvePathsModel", name := "kind", desc := "(I)I" }) ∈ gw := gw_in 698 rfl rfl
set_option maxRecDepth 20000 in
theorem gw_699 : Cond.code ({ cls := "CurvePathsModel", name := "kind", desc := "(I)I" }) prog_7_method_30_code (2) (Option.some Jvm.ClassFile.FieldType.int) ∈ gw := gw_in 699 rfl rfl
set_option maxRecDepth 20000 in
theorem gw_700 : Cond.methodLink "CurvePathsLaw" (70) ({ cls := "CurvePathsModel", name := "place", desc := "(II)I" }) ∈ gw := gw_in 700 rfl rfl
set_option maxRecDepth 20000 in
theorem gw_701 : Cond.instanceMethod ({ cls := "CurvePathsModel", name := "place", desc := "(II)I" }) ∈ gw := gw_in 701 rfl rfl
set_option maxRecDepth 20000 in
theorem gw_702 : Cond.selects "CurvePathsModel" ({ cls := "CurvePathsModel", name := "place", desc := "(II)I" }) ({ cls := "CurvePathsModel", name := "place", desc := "(II)I" }) ∈ gw := gw_in 702 rfl rfl
set_option maxRecDepth 20000 in
theorem gw_703 : Cond.code ({ cls := "CurvePathsModel", name := "place", desc := "(II)I" }) prog_7_method_31_code (3) (Option.some Jvm.ClassFile.FieldType.int) ∈ gw := gw_in 703 rfl rfl
set_option maxRecDepth 20000 in
theorem gw_704 : Cond.methodLink "CurvePathsLaw" (83) ({ cls := "CurvePathsModel", name := "bound", desc := "(I)I" }) ∈ gw := gw_in 704 rfl rfl
set_option maxRecDepth 20000 in
theorem gw_705 : Cond.instanceMethod ({ cls := "CurvePathsModel", name := "bound", desc := "(I)I" }) ∈ gw := gw_in 705 rfl rfl
set_option maxRecDepth 20000 in
theorem gw_706 : Cond.selects "CurvePathsModel" ({ cls := "CurvePathsModel", name := "bound", desc := "(I)I" }) ({ cls := "CurvePathsModel", name := "bound", desc := "(I)I" }) ∈ gw := gw_in 706 rfl rfl
set_option maxRecDepth 20000 in
theorem gw_707 : Cond.code ({ cls := "CurvePathsModel", name := "bound", desc := "(I)I" }) prog_7_method_32_code (6) (Option.some Jvm.ClassFile.FieldType.int) ∈ gw := gw_in 707 rfl rfl
