def R_CP : String := "CurvePaths"
def T_CP : u_T := fun k => match k with
  | 0 => ("CurvePaths", "directions", "LCurvePaths$Axes;", true)
  | 1 => ("CurvePaths", "sweep", "LCurvePaths$Arc;", true)
  | 2 => ("CurvePaths", "halving", "LCurvePaths$Halving;", true)
  | 3 => ("CurvePaths", "path", "LCurvePaths$Path;", false)
  | _ => ("CurvePaths", "spare", "LCurvePaths$Path;", false)
def t_CP : Nat → FieldType := fun k => match k with
  | 0 => (.object "CurvePaths$Axes")
  | 1 => (.object "CurvePaths$Arc")
  | 2 => (.object "CurvePaths$Halving")
  | 3 => (.object "CurvePaths$Path")
  | _ => (.object "CurvePaths$Path")
theorem nk_CP : ∀ a, a < 5 → ∀ b, b < 5 → a ≠ b → (T_CP a).2.1 ≠ (T_CP b).2.1 := by decide +kernel
theorem tk_CP : ∀ k, k < 5 → parseFieldDescriptor (T_CP k).2.2.1 = some (t_CP k) := by decide +kernel
def R_M : String := "CurvePathsModel"
def T_M : u_T := fun k => match k with
  | 0 => ("CurvePathsModel", "path", "LCurvePathsModel$Path;", false)
  | 1 => ("CurvePathsModel", "draft", "LCurvePathsModel$Path;", false)
  | 2 => ("CurvePathsModel", "axes", "[J", true)
  | 3 => ("CurvePathsModel", "unit", "[J", true)
  | 4 => ("CurvePathsModel", "before", "[J", true)
  | 5 => ("CurvePathsModel", "behind", "[J", true)
  | _ => ("CurvePathsModel", "mixed", "[J", true)
def t_M : Nat → FieldType := fun k => match k with
  | 0 => (.object "CurvePathsModel$Path")
  | 1 => (.object "CurvePathsModel$Path")
  | 2 => (.array .long)
  | 3 => (.array .long)
  | 4 => (.array .long)
  | 5 => (.array .long)
  | _ => (.array .long)
theorem nk_M : ∀ a, a < 7 → ∀ b, b < 7 → a ≠ b → (T_M a).2.1 ≠ (T_M b).2.1 := by decide +kernel
theorem tk_M : ∀ k, k < 7 → parseFieldDescriptor (T_M k).2.2.1 = some (t_M k) := by decide +kernel
def R_Arc : String := "CurvePaths$Arc"
def T_Arc : u_T := fun k => match k with
  | 0 => ("CurvePaths$Arc", "xs", "[I", true)
  | 1 => ("CurvePaths$Arc", "ys", "[I", true)
  | 2 => ("CurvePaths$Arc", "as", "[I", true)
  | 3 => ("CurvePaths$Arc", "bs", "[I", true)
  | _ => ("CurvePaths$Arc", "pointCount", "I", false)
def t_Arc : Nat → FieldType := fun k => match k with
  | 0 => (.array .int)
  | 1 => (.array .int)
  | 2 => (.array .int)
  | 3 => (.array .int)
  | _ => .int
theorem nk_Arc : ∀ a, a < 5 → ∀ b, b < 5 → a ≠ b → (T_Arc a).2.1 ≠ (T_Arc b).2.1 := by decide +kernel
theorem tk_Arc : ∀ k, k < 5 → parseFieldDescriptor (T_Arc k).2.2.1 = some (t_Arc k) := by decide +kernel
def R_Axes : String := "CurvePaths$Axes"
def T_Axes : u_T := fun k => match k with
  | 0 => ("CurvePaths$Axes", "p", "J", false)
  | 1 => ("CurvePaths$Axes", "q", "J", false)
  | 2 => ("CurvePaths$Axes", "\x72", "J", false)
  | _ => ("CurvePaths$Axes", "s", "J", false)
def t_Axes : Nat → FieldType := fun k => match k with
  | 0 => .long
  | 1 => .long
  | 2 => .long
  | _ => .long
theorem nk_Axes : ∀ a, a < 4 → ∀ b, b < 4 → a ≠ b → (T_Axes a).2.1 ≠ (T_Axes b).2.1 := by decide +kernel
theorem tk_Axes : ∀ k, k < 4 → parseFieldDescriptor (T_Axes k).2.2.1 = some (t_Axes k) := by decide +kernel
def R_Halving : String := "CurvePaths$Halving"
def T_Halving : u_T := fun k => match k with
  | 0 => ("CurvePaths$Halving", "pieces", "[I", true)
  | _ => ("CurvePaths$Halving", "halvings", "[I", true)
def t_Halving : Nat → FieldType := fun k => match k with
  | 0 => (.array .int)
  | _ => (.array .int)
theorem nk_Halving : ∀ a, a < 2 → ∀ b, b < 2 → a ≠ b → (T_Halving a).2.1 ≠ (T_Halving b).2.1 := by decide +kernel
theorem tk_Halving : ∀ k, k < 2 → parseFieldDescriptor (T_Halving k).2.2.1 = some (t_Halving k) := by decide +kernel
def R_Path : String := "CurvePaths$Path"
def T_Path : u_T := fun k => match k with
  | 0 => ("CurvePaths$Path", "kinds", "[I", true)
  | 1 => ("CurvePaths$Path", "firsts", "[I", true)
  | 2 => ("CurvePaths$Path", "xs", "[I", true)
  | 3 => ("CurvePaths$Path", "ys", "[I", true)
  | 4 => ("CurvePaths$Path", "partCount", "I", false)
  | 5 => ("CurvePaths$Path", "pointCount", "I", false)
  | _ => ("CurvePaths$Path", "begunAt", "I", false)
def t_Path : Nat → FieldType := fun k => match k with
  | 0 => (.array .int)
  | 1 => (.array .int)
  | 2 => (.array .int)
  | 3 => (.array .int)
  | 4 => .int
  | 5 => .int
  | _ => .int
theorem nk_Path : ∀ a, a < 7 → ∀ b, b < 7 → a ≠ b → (T_Path a).2.1 ≠ (T_Path b).2.1 := by decide +kernel
theorem tk_Path : ∀ k, k < 7 → parseFieldDescriptor (T_Path k).2.2.1 = some (t_Path k) := by decide +kernel
def R_MPath : String := "CurvePathsModel$Path"
def T_MPath : u_T := fun k => match k with
  | 0 => ("CurvePathsModel$Path", "kinds", "[B", true)
  | 1 => ("CurvePathsModel$Path", "places", "[I", true)
  | 2 => ("CurvePathsModel$Path", "size", "I", false)
  | 3 => ("CurvePathsModel$Path", "full", "Z", false)
  | _ => ("CurvePathsModel$Path", "far", "Z", false)
def t_MPath : Nat → FieldType := fun k => match k with
  | 0 => (.array .byte)
  | 1 => (.array .int)
  | 2 => .int
  | 3 => .boolean
  | _ => .boolean
theorem nk_MPath : ∀ a, a < 5 → ∀ b, b < 5 → a ≠ b → (T_MPath a).2.1 ≠ (T_MPath b).2.1 := by decide +kernel
theorem tk_MPath : ∀ k, k < 5 → parseFieldDescriptor (T_MPath k).2.2.1 = some (t_MPath k) := by decide +kernel
abbrev cl : List vw_C := [(R_CP, T_CP, 5), (R_M, T_M, 7), (R_Arc, T_Arc, 5), (R_Axes, T_Axes, 4), (R_Halving, T_Halving, 2), (R_Path, T_Path, 7), (R_MPath, T_MPath, 5)]
/-- a word that stays: of the tables, or of an array class -/
def gd (w : Cond) : Bool := (w.onTables && w.keeps) || (match w with | .arrayClass _ => true | _ => false)
def gw : List Cond := lw_tbl.filter gd
theorem gw_in {w : Cond} (k : Nat) (h : lw_tbl[k]? = some w) (hg : gd w = true) : w ∈ gw := List.mem_filter.mpr ⟨List.mem_of_getElem? h, hg⟩
theorem gwc {w c : Cond} (h : w ∈ gw) : w ∈ c :: gw := List.mem_cons_of_mem _ h
theorem gd_ok {w : Cond} (h : gd w = true) : (w.onTables && w.keeps) = true ∨ ∃ ty, w = .arrayClass ty := by
  unfold gd at h
  rcases Bool.or_eq_true _ _ ▸ h with h | h
  · exact Or.inl h
  · split at h
    · exact Or.inr ⟨_, rfl⟩
    · cases h
theorem gi_1 {w c : Cond} (h : w ∈ gw) : w ∈ c :: gw ∧ ((w.onTables && w.keeps) = true ∨ ∃ ty, w = .arrayClass ty) := ⟨gwc h, gd_ok (List.mem_filter.mp h).2⟩
theorem gi_N {k c : Cond} (h : k ∈ gw) : GoodIn (c :: gw) (k :: gw) := fun w hw => by
  rcases List.mem_cons.mp hw with q | q
  · rw [q]; exact gi_1 h
  · exact gi_1 q
theorem gi_V {own C : String} {i : Nat} {y : MethodName} {k c : Cond} (h1 : Cond.methodLink own i y ∈ gw) (h2 : Cond.instanceMethod y ∈ gw) (h3 : Cond.selects C y y ∈ gw) (h4 : Cond.initialized C ∈ gw) (h : k ∈ gw) : GoodIn (c :: gw) (wsV own i C y (k :: gw)) := fun w hw => by
  rcases List.mem_append.mp hw with q | q
  · simp only [List.mem_cons, List.not_mem_nil, or_false] at q
    rcases q with q | q | q | q <;> rw [q]
    · exact gi_1 h1
    · exact gi_1 h2
    · exact gi_1 h3
    · exact gi_1 h4
  · exact gi_N h w q
theorem gi_S {own : String} {i : Nat} {y : MethodName} {k c : Cond} (h1 : Cond.methodLink own i y ∈ gw) (h2 : Cond.static y ∈ gw) (h4 : Cond.initialized y.cls ∈ gw) (h : k ∈ gw) : GoodIn (c :: gw) (va_wsS own i y (k :: gw)) := fun w hw => by
  rcases List.mem_append.mp hw with q | q
  · simp only [List.mem_cons, List.not_mem_nil, or_false] at q
    rcases q with q | q | q <;> rw [q]
    · exact gi_1 h1
    · exact gi_1 h2
    · exact gi_1 h4
  · exact gi_N h w q
theorem ux_CP : ∀ w ∈ u_ws R_CP T_CP 5, w ∈ gw := by decide +kernel
theorem ui_CP (c : Cond) : ∀ w ∈ u_ws R_CP T_CP 5, w ∈ c :: gw := fun w h => gwc (ux_CP w h)
theorem ux_M : ∀ w ∈ u_ws R_M T_M 7, w ∈ gw := by decide +kernel
theorem ui_M (c : Cond) : ∀ w ∈ u_ws R_M T_M 7, w ∈ c :: gw := fun w h => gwc (ux_M w h)
theorem ux_Arc : ∀ w ∈ u_ws R_Arc T_Arc 5, w ∈ gw := by decide +kernel
theorem ui_Arc (c : Cond) : ∀ w ∈ u_ws R_Arc T_Arc 5, w ∈ c :: gw := fun w h => gwc (ux_Arc w h)
theorem ux_Axes : ∀ w ∈ u_ws R_Axes T_Axes 4, w ∈ gw := by decide +kernel
theorem ui_Axes (c : Cond) : ∀ w ∈ u_ws R_Axes T_Axes 4, w ∈ c :: gw := fun w h => gwc (ux_Axes w h)
theorem ux_Halving : ∀ w ∈ u_ws R_Halving T_Halving 2, w ∈ gw := by decide +kernel
theorem ui_Halving (c : Cond) : ∀ w ∈ u_ws R_Halving T_Halving 2, w ∈ c :: gw := fun w h => gwc (ux_Halving w h)
theorem ux_Path : ∀ w ∈ u_ws R_Path T_Path 7, w ∈ gw := by decide +kernel
theorem ui_Path (c : Cond) : ∀ w ∈ u_ws R_Path T_Path 7, w ∈ c :: gw := fun w h => gwc (ux_Path w h)
theorem ux_MPath : ∀ w ∈ u_ws R_MPath T_MPath 5, w ∈ gw := by decide +kernel
theorem ui_MPath (c : Cond) : ∀ w ∈ u_ws R_MPath T_MPath 5, w ∈ c :: gw := fun w h => gwc (ux_MPath w h)
abbrev b_CP_init : ByteArray := prog_1_method_1_code
abbrev y_CP_init : MethodName := ⟨"CurvePaths", "<init>", "()V"⟩
abbrev w_CP_init : List Cond := .code y_CP_init b_CP_init 1 none :: gw
abbrev b_Object_init : ByteArray := object_method_1_code
abbrev y_Object_init : MethodName := ⟨"java/lang/Object", "<init>", "()V"⟩
abbrev w_Object_init : List Cond := .code y_Object_init b_Object_init 1 none :: gw
abbrev b_Axes_init : ByteArray := prog_3_method_1_code
abbrev y_Axes_init : MethodName := ⟨"CurvePaths$Axes", "<init>", "()V"⟩
abbrev w_Axes_init : List Cond := .code y_Axes_init b_Axes_init 1 none :: gw
abbrev b_Arc_init : ByteArray := prog_2_method_1_code
abbrev y_Arc_init : MethodName := ⟨"CurvePaths$Arc", "<init>", "()V"⟩
abbrev w_Arc_init : List Cond := .code y_Arc_init b_Arc_init 1 none :: gw
abbrev b_Halving_init : ByteArray := prog_4_method_1_code
abbrev y_Halving_init : MethodName := ⟨"CurvePaths$Halving", "<init>", "()V"⟩
abbrev w_Halving_init : List Cond := .code y_Halving_init b_Halving_init 1 none :: gw
abbrev b_Path_init : ByteArray := prog_5_method_1_code
abbrev y_Path_init : MethodName := ⟨"CurvePaths$Path", "<init>", "()V"⟩
abbrev w_Path_init : List Cond := .code y_Path_init b_Path_init 1 none :: gw
abbrev b_CP_move : ByteArray := prog_1_method_2_code
abbrev y_CP_move : MethodName := ⟨"CurvePaths", "move", "(II)I"⟩
abbrev w_CP_move : List Cond := .code y_CP_move b_CP_move 3 (some .int) :: gw
abbrev b_CP_isFarPoint : ByteArray := prog_1_method_23_code
abbrev y_CP_isFarPoint : MethodName := ⟨"CurvePaths", "isFarPoint", "(JJ)Z"⟩
abbrev w_CP_isFarPoint : List Cond := .code y_CP_isFarPoint b_CP_isFarPoint 4 (some .boolean) :: gw
abbrev b_CP_isFar : ByteArray := prog_1_method_22_code
abbrev y_CP_isFar : MethodName := ⟨"CurvePaths", "isFar", "(J)Z"⟩
abbrev w_CP_isFar : List Cond := .code y_CP_isFar b_CP_isFar 2 (some .boolean) :: gw
abbrev b_Path_onlyBegan : ByteArray := prog_5_method_4_code
abbrev y_Path_onlyBegan : MethodName := ⟨"CurvePaths$Path", "onlyBegan", "()Z"⟩
abbrev w_Path_onlyBegan : List Cond := .code y_Path_onlyBegan b_Path_onlyBegan 1 (some .boolean) :: gw
abbrev b_Path_replaceBeginning : ByteArray := prog_5_method_12_code
abbrev y_Path_replaceBeginning : MethodName := ⟨"CurvePaths$Path", "replaceBeginning", "(II)V"⟩
abbrev w_Path_replaceBeginning : List Cond := .code y_Path_replaceBeginning b_Path_replaceBeginning 3 none :: gw
abbrev b_Path_takes : ByteArray := prog_5_method_6_code
abbrev y_Path_takes : MethodName := ⟨"CurvePaths$Path", "takes", "(I)Z"⟩
abbrev w_Path_takes : List Cond := .code y_Path_takes b_Path_takes 2 (some .boolean) :: gw
abbrev b_Path_addBeginning : ByteArray := prog_5_method_13_code
abbrev y_Path_addBeginning : MethodName := ⟨"CurvePaths$Path", "addBeginning", "(II)V"⟩
abbrev w_Path_addBeginning : List Cond := .code y_Path_addBeginning b_Path_addBeginning 3 none :: gw
abbrev b_Path_addPart : ByteArray := prog_5_method_20_code
abbrev y_Path_addPart : MethodName := ⟨"CurvePaths$Path", "addPart", "(II)V"⟩
abbrev w_Path_addPart : List Cond := .code y_Path_addPart b_Path_addPart 3 none :: gw
abbrev b_Path_addPoint : ByteArray := prog_5_method_21_code
abbrev y_Path_addPoint : MethodName := ⟨"CurvePaths$Path", "addPoint", "(II)V"⟩
abbrev w_Path_addPoint : List Cond := .code y_Path_addPoint b_Path_addPoint 3 none :: gw
abbrev b_CP_line : ByteArray := prog_1_method_3_code
abbrev y_CP_line : MethodName := ⟨"CurvePaths", "line", "(II)I"⟩
abbrev w_CP_line : List Cond := .code y_CP_line b_CP_line 3 (some .int) :: gw
abbrev b_Path_isEmpty : ByteArray := prog_5_method_2_code
abbrev y_Path_isEmpty : MethodName := ⟨"CurvePaths$Path", "isEmpty", "()Z"⟩
abbrev w_Path_isEmpty : List Cond := .code y_Path_isEmpty b_Path_isEmpty 1 (some .boolean) :: gw
abbrev b_Path_takesSegments : ByteArray := prog_5_method_7_code
abbrev y_Path_takesSegments : MethodName := ⟨"CurvePaths$Path", "takesSegments", "(I)Z"⟩
abbrev w_Path_takesSegments : List Cond := .code y_Path_takesSegments b_Path_takesSegments 2 (some .boolean) :: gw
abbrev b_Path_isClosed : ByteArray := prog_5_method_5_code
abbrev y_Path_isClosed : MethodName := ⟨"CurvePaths$Path", "isClosed", "()Z"⟩
abbrev w_Path_isClosed : List Cond := .code y_Path_isClosed b_Path_isClosed 1 (some .boolean) :: gw
abbrev b_Path_goOn : ByteArray := prog_5_method_17_code
abbrev y_Path_goOn : MethodName := ⟨"CurvePaths$Path", "goOn", "()V"⟩
abbrev w_Path_goOn : List Cond := .code y_Path_goOn b_Path_goOn 1 none :: gw
abbrev b_Path_addLine : ByteArray := prog_5_method_14_code
abbrev y_Path_addLine : MethodName := ⟨"CurvePaths$Path", "addLine", "(II)V"⟩
abbrev w_Path_addLine : List Cond := .code y_Path_addLine b_Path_addLine 3 none :: gw
abbrev b_CP_curve : ByteArray := prog_1_method_4_code
abbrev y_CP_curve : MethodName := ⟨"CurvePaths", "curve", "(IIIIII)I"⟩
abbrev w_CP_curve : List Cond := .code y_CP_curve b_CP_curve 7 (some .int) :: gw
abbrev b_Path_addCurve : ByteArray := prog_5_method_15_code
abbrev y_Path_addCurve : MethodName := ⟨"CurvePaths$Path", "addCurve", "(IIIIII)V"⟩
abbrev w_Path_addCurve : List Cond := .code y_Path_addCurve b_Path_addCurve 7 none :: gw
abbrev b_CP_close : ByteArray := prog_1_method_5_code
abbrev y_CP_close : MethodName := ⟨"CurvePaths", "close", "()I"⟩
abbrev w_CP_close : List Cond := .code y_CP_close b_CP_close 1 (some .int) :: gw
abbrev b_Path_addClosing : ByteArray := prog_5_method_16_code
abbrev y_Path_addClosing : MethodName := ⟨"CurvePaths$Path", "addClosing", "()V"⟩
abbrev w_Path_addClosing : List Cond := .code y_Path_addClosing b_Path_addClosing 1 none :: gw
abbrev b_CP_axes : ByteArray := prog_1_method_6_code
abbrev y_CP_axes : MethodName := ⟨"CurvePaths", "axes", "(IIII)Z"⟩
abbrev w_CP_axes : List Cond := .code y_CP_axes b_CP_axes 5 (some .boolean) :: gw
abbrev b_Axes_set : ByteArray := prog_3_method_2_code
abbrev y_Axes_set : MethodName := ⟨"CurvePaths$Axes", "set", "(IIII)V"⟩
abbrev w_Axes_set : List Cond := .code y_Axes_set b_Axes_set 5 none :: gw
abbrev b_CP_arc : ByteArray := prog_1_method_7_code
abbrev y_CP_arc : MethodName := ⟨"CurvePaths", "arc", "(IIIII)I"⟩
abbrev w_CP_arc : List Cond := .code y_CP_arc b_CP_arc 8 (some .int) :: gw
abbrev b_CP_notBelow : ByteArray := prog_1_method_20_code
abbrev y_CP_notBelow : MethodName := ⟨"CurvePaths", "notBelow", "(JJ)J"⟩
abbrev w_CP_notBelow : List Cond := .code y_CP_notBelow b_CP_notBelow 4 (some .long) :: gw
abbrev b_Math_floorMod : ByteArray := prog_9_method_52_code
abbrev y_Math_floorMod : MethodName := ⟨"java/lang/Math", "floorMod", "(JJ)J"⟩
abbrev w_Math_floorMod : List Cond := .code y_Math_floorMod b_Math_floorMod 6 (some .long) :: gw
abbrev b_CP_notAbove : ByteArray := prog_1_method_21_code
abbrev y_CP_notAbove : MethodName := ⟨"CurvePaths", "notAbove", "(JJ)J"⟩
abbrev w_CP_notAbove : List Cond := .code y_CP_notAbove b_CP_notAbove 4 (some .long) :: gw
abbrev b_Math_abs : ByteArray := prog_9_method_61_code
abbrev y_Math_abs : MethodName := ⟨"java/lang/Math", "abs", "(J)J"⟩
abbrev w_Math_abs : List Cond := .code y_Math_abs b_Math_abs 2 (some .long) :: gw
abbrev b_Arc_reckon : ByteArray := prog_2_method_3_code
abbrev y_Arc_reckon : MethodName := ⟨"CurvePaths$Arc", "reckon", "(JJ)V"⟩
abbrev w_Arc_reckon : List Cond := .code y_Arc_reckon b_Arc_reckon 16 none :: gw
abbrev b_Math_floorDiv : ByteArray := prog_9_method_49_code
abbrev y_Math_floorDiv : MethodName := ⟨"java/lang/Math", "floorDiv", "(JJ)J"⟩
abbrev w_Math_floorDiv : List Cond := .code y_Math_floorDiv b_Math_floorDiv 6 (some .long) :: gw
abbrev b_Arc_placeIn : ByteArray := prog_2_method_7_code
abbrev y_Arc_placeIn : MethodName := ⟨"CurvePaths$Arc", "placeIn", "(JJ)I"⟩
abbrev w_Arc_placeIn : List Cond := .code y_Arc_placeIn b_Arc_placeIn 4 (some .int) :: gw
abbrev b_Arc_takePart : ByteArray := prog_2_method_8_code
abbrev y_Arc_takePart : MethodName := ⟨"CurvePaths$Arc", "takePart", "(JII)V"⟩
abbrev w_Arc_takePart : List Cond := .code y_Arc_takePart b_Arc_takePart 5 none :: gw
abbrev b_Arc_takeQuarter : ByteArray := prog_2_method_9_code
abbrev y_Arc_takeQuarter : MethodName := ⟨"CurvePaths$Arc", "takeQuarter", "(J)V"⟩
abbrev w_Arc_takeQuarter : List Cond := .code y_Arc_takeQuarter b_Arc_takeQuarter 5 none :: gw
abbrev b_Arc_turnQuarter : ByteArray := prog_2_method_10_code
abbrev y_Arc_turnQuarter : MethodName := ⟨"CurvePaths$Arc", "turnQuarter", "()V"⟩
abbrev w_Arc_turnQuarter : List Cond := .code y_Arc_turnQuarter b_Arc_turnQuarter 3 none :: gw
abbrev b_Arc_keepBefore : ByteArray := prog_2_method_11_code
abbrev y_Arc_keepBefore : MethodName := ⟨"CurvePaths$Arc", "keepBefore", "(I)V"⟩
abbrev w_Arc_keepBefore : List Cond := .code y_Arc_keepBefore b_Arc_keepBefore 4 none :: gw
abbrev b_Arc_mix : ByteArray := prog_2_method_13_code
abbrev y_Arc_mix : MethodName := ⟨"CurvePaths$Arc", "mix", "(III)I"⟩
abbrev w_Arc_mix : List Cond := .code y_Arc_mix b_Arc_mix 3 (some .int) :: gw
abbrev b_Arc_keepBehind : ByteArray := prog_2_method_12_code
abbrev y_Arc_keepBehind : MethodName := ⟨"CurvePaths$Arc", "keepBehind", "(I)V"⟩
abbrev w_Arc_keepBehind : List Cond := .code y_Arc_keepBehind b_Arc_keepBehind 4 none :: gw
abbrev b_Arc_addTaken : ByteArray := prog_2_method_14_code
abbrev y_Arc_addTaken : MethodName := ⟨"CurvePaths$Arc", "addTaken", "()V"⟩
abbrev w_Arc_addTaken : List Cond := .code y_Arc_addTaken b_Arc_addTaken 2 none :: gw
abbrev b_Arc_addPoint : ByteArray := prog_2_method_15_code
abbrev y_Arc_addPoint : MethodName := ⟨"CurvePaths$Arc", "addPoint", "(II)V"⟩
abbrev w_Arc_addPoint : List Cond := .code y_Arc_addPoint b_Arc_addPoint 3 none :: gw
abbrev b_Arc_turnRound : ByteArray := prog_2_method_4_code
abbrev y_Arc_turnRound : MethodName := ⟨"CurvePaths$Arc", "turnRound", "()V"⟩
abbrev w_Arc_turnRound : List Cond := .code y_Arc_turnRound b_Arc_turnRound 1 none :: gw
abbrev b_CP_turnRow : ByteArray := prog_1_method_28_code
abbrev y_CP_turnRow : MethodName := ⟨"CurvePaths", "turnRow", "([III)V"⟩
abbrev w_CP_turnRow : List Cond := .code y_CP_turnRow b_CP_turnRow 6 none :: gw
abbrev b_Arc_bringTo : ByteArray := prog_2_method_5_code
abbrev y_Arc_bringTo : MethodName := ⟨"CurvePaths$Arc", "bringTo", "(IILCurvePaths$Axes;)Z"⟩
abbrev w_Arc_bringTo : List Cond := .code y_Arc_bringTo b_Arc_bringTo 9 (some .boolean) :: gw
abbrev b_Axes_alongX : ByteArray := prog_3_method_3_code
abbrev y_Axes_alongX : MethodName := ⟨"CurvePaths$Axes", "alongX", "(II)J"⟩
abbrev w_Axes_alongX : List Cond := .code y_Axes_alongX b_Axes_alongX 3 (some .long) :: gw
abbrev b_Axes_alongY : ByteArray := prog_3_method_4_code
abbrev y_Axes_alongY : MethodName := ⟨"CurvePaths$Axes", "alongY", "(II)J"⟩
abbrev w_Axes_alongY : List Cond := .code y_Axes_alongY b_Axes_alongY 3 (some .long) :: gw
abbrev b_CP_addSweep : ByteArray := prog_1_method_18_code
abbrev y_CP_addSweep : MethodName := ⟨"CurvePaths", "addSweep", "()I"⟩
abbrev w_CP_addSweep : List Cond := .code y_CP_addSweep b_CP_addSweep 2 (some .int) :: gw
abbrev b_Arc_curveCount : ByteArray := prog_2_method_2_code
abbrev y_Arc_curveCount : MethodName := ⟨"CurvePaths$Arc", "curveCount", "()I"⟩
abbrev w_Arc_curveCount : List Cond := .code y_Arc_curveCount b_Arc_curveCount 1 (some .int) :: gw
abbrev b_Arc_addCurvesTo : ByteArray := prog_2_method_6_code
abbrev y_Arc_addCurvesTo : MethodName := ⟨"CurvePaths$Arc", "addCurvesTo", "(LCurvePaths$Path;)V"⟩
abbrev w_Arc_addCurvesTo : List Cond := .code y_Arc_addCurvesTo b_Arc_addCurvesTo 3 none :: gw
abbrev b_CP_shift : ByteArray := prog_1_method_8_code
abbrev y_CP_shift : MethodName := ⟨"CurvePaths", "shift", "(II)I"⟩
abbrev w_CP_shift : List Cond := .code y_CP_shift b_CP_shift 3 (some .int) :: gw
abbrev b_CP_staysNear : ByteArray := prog_1_method_24_code
abbrev y_CP_staysNear : MethodName := ⟨"CurvePaths", "staysNear", "([III)Z"⟩
abbrev w_CP_staysNear : List Cond := .code y_CP_staysNear b_CP_staysNear 4 (some .boolean) :: gw
abbrev b_CP_addToAll : ByteArray := prog_1_method_25_code
abbrev y_CP_addToAll : MethodName := ⟨"CurvePaths", "addToAll", "([III)V"⟩
abbrev w_CP_addToAll : List Cond := .code y_CP_addToAll b_CP_addToAll 4 none :: gw
abbrev b_CP_reverse : ByteArray := prog_1_method_9_code
abbrev y_CP_reverse : MethodName := ⟨"CurvePaths", "reverse", "()I"⟩
abbrev w_CP_reverse : List Cond := .code y_CP_reverse b_CP_reverse 1 (some .int) :: gw
abbrev b_Path_turnSubpaths : ByteArray := prog_5_method_18_code
abbrev y_Path_turnSubpaths : MethodName := ⟨"CurvePaths$Path", "turnSubpaths", "()V"⟩
abbrev w_Path_turnSubpaths : List Cond := .code y_Path_turnSubpaths b_Path_turnSubpaths 3 none :: gw
abbrev b_Path_turnSubpath : ByteArray := prog_5_method_19_code
abbrev y_Path_turnSubpath : MethodName := ⟨"CurvePaths$Path", "turnSubpath", "(II)V"⟩
abbrev w_Path_turnSubpath : List Cond := .code y_Path_turnSubpath b_Path_turnSubpath 8 none :: gw
abbrev b_Path_pointOf : ByteArray := prog_5_method_8_code
abbrev y_Path_pointOf : MethodName := ⟨"CurvePaths$Path", "pointOf", "(I)I"⟩
abbrev w_Path_pointOf : List Cond := .code y_Path_pointOf b_Path_pointOf 2 (some .int) :: gw
abbrev b_CP_flatten : ByteArray := prog_1_method_10_code
abbrev y_CP_flatten : MethodName := ⟨"CurvePaths", "flatten", "(I)I"⟩
abbrev w_CP_flatten : List Cond := .code y_CP_flatten b_CP_flatten 3 (some .int) :: gw
abbrev b_Path_makeEmpty : ByteArray := prog_5_method_11_code
abbrev y_Path_makeEmpty : MethodName := ⟨"CurvePaths$Path", "makeEmpty", "()V"⟩
abbrev w_Path_makeEmpty : List Cond := .code y_Path_makeEmpty b_Path_makeEmpty 1 none :: gw
abbrev b_CP_addFlattened : ByteArray := prog_1_method_19_code
abbrev y_CP_addFlattened : MethodName := ⟨"CurvePaths", "addFlattened", "(II)Z"⟩
abbrev w_CP_addFlattened : List Cond := .code y_CP_addFlattened b_CP_addFlattened 5 (some .boolean) :: gw
abbrev b_Halving_take : ByteArray := prog_4_method_2_code
abbrev y_Halving_take : MethodName := ⟨"CurvePaths$Halving", "take", "(LCurvePaths$Path;I)V"⟩
abbrev w_Halving_take : List Cond := .code y_Halving_take b_Halving_take 5 none :: gw
abbrev b_Math_max : ByteArray := prog_9_method_65_code
abbrev y_Math_max : MethodName := ⟨"java/lang/Math", "max", "(II)I"⟩
abbrev w_Math_max : List Cond := .code y_Math_max b_Math_max 2 (some .int) :: gw
abbrev b_Halving_addLinesTo : ByteArray := prog_4_method_3_code
abbrev y_Halving_addLinesTo : MethodName := ⟨"CurvePaths$Halving", "addLinesTo", "(LCurvePaths$Path;I)Z"⟩
abbrev w_Halving_addLinesTo : List Cond := .code y_Halving_addLinesTo b_Halving_addLinesTo 6 (some .boolean) :: gw
abbrev b_Halving_isFlat : ByteArray := prog_4_method_4_code
abbrev y_Halving_isFlat : MethodName := ⟨"CurvePaths$Halving", "isFlat", "(II)Z"⟩
abbrev w_Halving_isFlat : List Cond := .code y_Halving_isFlat b_Halving_isFlat 4 (some .boolean) :: gw
abbrev b_Halving_isFlatAlong : ByteArray := prog_4_method_5_code
abbrev y_Halving_isFlatAlong : MethodName := ⟨"CurvePaths$Halving", "isFlatAlong", "(II)Z"⟩
abbrev w_Halving_isFlatAlong : List Cond := .code y_Halving_isFlatAlong b_Halving_isFlatAlong 3 (some .boolean) :: gw
abbrev b_Halving_isStraight : ByteArray := prog_4_method_6_code
abbrev y_Halving_isStraight : MethodName := ⟨"CurvePaths$Halving", "isStraight", "(II)Z"⟩
abbrev w_Halving_isStraight : List Cond := .code y_Halving_isStraight b_Halving_isStraight 5 (some .boolean) :: gw
abbrev b_Halving_halve : ByteArray := prog_4_method_7_code
abbrev y_Halving_halve : MethodName := ⟨"CurvePaths$Halving", "halve", "(I)V"⟩
abbrev w_Halving_halve : List Cond := .code y_Halving_halve b_Halving_halve 2 none :: gw
abbrev b_Halving_halveAlong : ByteArray := prog_4_method_8_code
abbrev y_Halving_halveAlong : MethodName := ⟨"CurvePaths$Halving", "halveAlong", "(I)V"⟩
abbrev w_Halving_halveAlong : List Cond := .code y_Halving_halveAlong b_Halving_halveAlong 10 none :: gw
abbrev b_Halving_setPiece : ByteArray := prog_4_method_9_code
abbrev y_Halving_setPiece : MethodName := ⟨"CurvePaths$Halving", "setPiece", "(IIIII)V"⟩
abbrev w_Halving_setPiece : List Cond := .code y_Halving_setPiece b_Halving_setPiece 6 none :: gw
abbrev b_CP_clear : ByteArray := prog_1_method_11_code
abbrev y_CP_clear : MethodName := ⟨"CurvePaths", "clear", "()I"⟩
abbrev w_CP_clear : List Cond := .code y_CP_clear b_CP_clear 2 (some .int) :: gw
abbrev b_CP_parts : ByteArray := prog_1_method_12_code
abbrev y_CP_parts : MethodName := ⟨"CurvePaths", "parts", "()I"⟩
abbrev w_CP_parts : List Cond := .code y_CP_parts b_CP_parts 1 (some .int) :: gw
abbrev b_CP_kind : ByteArray := prog_1_method_13_code
abbrev y_CP_kind : MethodName := ⟨"CurvePaths", "kind", "(I)I"⟩
abbrev w_CP_kind : List Cond := .code y_CP_kind b_CP_kind 2 (some .int) :: gw
abbrev b_Path_hasPart : ByteArray := prog_5_method_3_code
abbrev y_Path_hasPart : MethodName := ⟨"CurvePaths$Path", "hasPart", "(I)Z"⟩
abbrev w_Path_hasPart : List Cond := .code y_Path_hasPart b_Path_hasPart 2 (some .boolean) :: gw
abbrev b_CP_place : ByteArray := prog_1_method_14_code
abbrev y_CP_place : MethodName := ⟨"CurvePaths", "place", "(II)I"⟩
abbrev w_CP_place : List Cond := .code y_CP_place b_CP_place 3 (some .int) :: gw
abbrev b_Path_coordinate : ByteArray := prog_5_method_10_code
abbrev y_Path_coordinate : MethodName := ⟨"CurvePaths$Path", "coordinate", "(II)I"⟩
abbrev w_Path_coordinate : List Cond := .code y_Path_coordinate b_Path_coordinate 3 (some .int) :: gw
abbrev b_CP_point : ByteArray := prog_1_method_15_code
abbrev y_CP_point : MethodName := ⟨"CurvePaths", "point", "(I)I"⟩
abbrev w_CP_point : List Cond := .code y_CP_point b_CP_point 2 (some .int) :: gw
abbrev b_Path_latestPoint : ByteArray := prog_5_method_9_code
abbrev y_Path_latestPoint : MethodName := ⟨"CurvePaths$Path", "latestPoint", "()I"⟩
abbrev w_Path_latestPoint : List Cond := .code y_Path_latestPoint b_Path_latestPoint 1 (some .int) :: gw
abbrev b_CP_isPoint : ByteArray := prog_1_method_16_code
abbrev y_CP_isPoint : MethodName := ⟨"CurvePaths", "isPoint", "()Z"⟩
abbrev w_CP_isPoint : List Cond := .code y_CP_isPoint b_CP_isPoint 1 (some .boolean) :: gw
abbrev b_CP_bound : ByteArray := prog_1_method_17_code
abbrev y_CP_bound : MethodName := ⟨"CurvePaths", "bound", "(I)I"⟩
abbrev w_CP_bound : List Cond := .code y_CP_bound b_CP_bound 2 (some .int) :: gw
abbrev b_CP_least : ByteArray := prog_1_method_26_code
abbrev y_CP_least : MethodName := ⟨"CurvePaths", "least", "([II)I"⟩
abbrev w_CP_least : List Cond := .code y_CP_least b_CP_least 4 (some .int) :: gw
abbrev b_Math_min : ByteArray := prog_9_method_69_code
abbrev y_Math_min : MethodName := ⟨"java/lang/Math", "min", "(II)I"⟩
abbrev w_Math_min : List Cond := .code y_Math_min b_Math_min 2 (some .int) :: gw
abbrev b_CP_greatest : ByteArray := prog_1_method_27_code
abbrev y_CP_greatest : MethodName := ⟨"CurvePaths", "greatest", "([II)I"⟩
abbrev w_CP_greatest : List Cond := .code y_CP_greatest b_CP_greatest 4 (some .int) :: gw
abbrev b_M_init : ByteArray := prog_7_method_1_code
abbrev y_M_init : MethodName := ⟨"CurvePathsModel", "<init>", "()V"⟩
abbrev w_M_init : List Cond := .code y_M_init b_M_init 1 none :: gw
abbrev b_MPath_init : ByteArray := prog_8_method_1_code
abbrev y_MPath_init : MethodName := ⟨"CurvePathsModel$Path", "<init>", "()V"⟩
abbrev w_MPath_init : List Cond := .code y_MPath_init b_MPath_init 1 none :: gw
abbrev b_M_isPoint : ByteArray := prog_7_method_3_code
abbrev y_M_isPoint : MethodName := ⟨"CurvePathsModel", "isPoint", "()Z"⟩
abbrev w_M_isPoint : List Cond := .code y_M_isPoint b_M_isPoint 1 (some .boolean) :: gw
abbrev b_M_point : ByteArray := prog_7_method_4_code
abbrev y_M_point : MethodName := ⟨"CurvePathsModel", "point", "(I)I"⟩
abbrev w_M_point : List Cond := .code y_M_point b_M_point 2 (some .int) :: gw
abbrev b_MPath_get : ByteArray := prog_8_method_4_code
abbrev y_MPath_get : MethodName := ⟨"CurvePathsModel$Path", "get", "(II)I"⟩
abbrev w_MPath_get : List Cond := .code y_MPath_get b_MPath_get 3 (some .int) :: gw
abbrev b_M_move : ByteArray := prog_7_method_5_code
abbrev y_M_move : MethodName := ⟨"CurvePathsModel", "move", "(II)I"⟩
abbrev w_M_move : List Cond := .code y_M_move b_M_move 3 (some .int) :: gw
abbrev b_MPath_copy : ByteArray := prog_8_method_3_code
abbrev y_MPath_copy : MethodName := ⟨"CurvePathsModel$Path", "copy", "(LCurvePathsModel$Path;)V"⟩
abbrev w_MPath_copy : List Cond := .code y_MPath_copy b_MPath_copy 3 none :: gw
abbrev b_MPath_empty : ByteArray := prog_8_method_2_code
abbrev y_MPath_empty : MethodName := ⟨"CurvePathsModel$Path", "empty", "()V"⟩
abbrev w_MPath_empty : List Cond := .code y_MPath_empty b_MPath_empty 1 none :: gw
abbrev b_MPath_begin : ByteArray := prog_8_method_10_code
abbrev y_MPath_begin : MethodName := ⟨"CurvePathsModel$Path", "begin", "(JJ)V"⟩
abbrev w_MPath_begin : List Cond := .code y_MPath_begin b_MPath_begin 5 none :: gw
abbrev b_MPath_addPoint : ByteArray := prog_8_method_7_code
abbrev y_MPath_addPoint : MethodName := ⟨"CurvePathsModel$Path", "addPoint", "(IJJ)V"⟩
abbrev w_MPath_addPoint : List Cond := .code y_MPath_addPoint b_MPath_addPoint 6 none :: gw
abbrev b_MPath_add : ByteArray := prog_8_method_6_code
abbrev y_MPath_add : MethodName := ⟨"CurvePathsModel$Path", "add", "(IJJJJJJ)V"⟩
abbrev w_MPath_add : List Cond := .code y_MPath_add b_MPath_add 14 none :: gw
abbrev b_MPath_isFar : ByteArray := prog_8_method_5_code
abbrev y_MPath_isFar : MethodName := ⟨"CurvePathsModel$Path", "isFar", "(J)Z"⟩
abbrev w_MPath_isFar : List Cond := .code y_MPath_isFar b_MPath_isFar 2 (some .boolean) :: gw
abbrev b_M_settle : ByteArray := prog_7_method_2_code
abbrev y_M_settle : MethodName := ⟨"CurvePathsModel", "settle", "()I"⟩
abbrev w_M_settle : List Cond := .code y_M_settle b_M_settle 2 (some .int) :: gw
abbrev b_M_line : ByteArray := prog_7_method_6_code
abbrev y_M_line : MethodName := ⟨"CurvePathsModel", "line", "(II)I"⟩
abbrev w_M_line : List Cond := .code y_M_line b_M_line 3 (some .int) :: gw
abbrev b_MPath_open : ByteArray := prog_8_method_9_code
abbrev y_MPath_open : MethodName := ⟨"CurvePathsModel$Path", "open", "()V"⟩
abbrev w_MPath_open : List Cond := .code y_MPath_open b_MPath_open 1 none :: gw
abbrev b_M_curve : ByteArray := prog_7_method_7_code
abbrev y_M_curve : MethodName := ⟨"CurvePathsModel", "curve", "(IIIIII)I"⟩
abbrev w_M_curve : List Cond := .code y_M_curve b_M_curve 7 (some .int) :: gw
abbrev b_M_close : ByteArray := prog_7_method_8_code
abbrev y_M_close : MethodName := ⟨"CurvePathsModel", "close", "()I"⟩
abbrev w_M_close : List Cond := .code y_M_close b_M_close 2 (some .int) :: gw
abbrev b_MPath_first : ByteArray := prog_8_method_8_code
abbrev y_MPath_first : MethodName := ⟨"CurvePathsModel$Path", "first", "(I)I"⟩
abbrev w_MPath_first : List Cond := .code y_MPath_first b_MPath_first 3 (some .int) :: gw
abbrev b_M_clear : ByteArray := prog_7_method_9_code
abbrev y_M_clear : MethodName := ⟨"CurvePathsModel", "clear", "()I"⟩
abbrev w_M_clear : List Cond := .code y_M_clear b_M_clear 2 (some .int) :: gw
abbrev b_M_axes : ByteArray := prog_7_method_10_code
abbrev y_M_axes : MethodName := ⟨"CurvePathsModel", "axes", "(IIII)Z"⟩
abbrev w_M_axes : List Cond := .code y_M_axes b_M_axes 5 (some .boolean) :: gw
abbrev b_M_arc : ByteArray := prog_7_method_22_code
abbrev y_M_arc : MethodName := ⟨"CurvePathsModel", "arc", "(IIIII)I"⟩
abbrev w_M_arc : List Cond := .code y_M_arc b_M_arc 8 (some .int) :: gw
abbrev b_M_addArc : ByteArray := prog_7_method_21_code
abbrev y_M_addArc : MethodName := ⟨"CurvePathsModel", "addArc", "(JJJJZ)V"⟩
abbrev w_M_addArc : List Cond := .code y_M_addArc b_M_addArc 19 none :: gw
abbrev b_M_from : ByteArray := prog_7_method_19_code
abbrev y_M_from : MethodName := ⟨"CurvePathsModel", "from", "(JJ)J"⟩
abbrev w_M_from : List Cond := .code y_M_from b_M_from 4 (some .long) :: gw
abbrev b_M_placeOf : ByteArray := prog_7_method_11_code
abbrev y_M_placeOf : MethodName := ⟨"CurvePathsModel", "placeOf", "(J)J"⟩
abbrev w_M_placeOf : List Cond := .code y_M_placeOf b_M_placeOf 2 (some .long) :: gw
abbrev b_M_to : ByteArray := prog_7_method_20_code
abbrev y_M_to : MethodName := ⟨"CurvePathsModel", "to", "(JJ)J"⟩
abbrev w_M_to : List Cond := .code y_M_to b_M_to 4 (some .long) :: gw
abbrev b_M_quarter : ByteArray := prog_7_method_12_code
abbrev y_M_quarter : MethodName := ⟨"CurvePathsModel", "quarter", "(J)V"⟩
abbrev w_M_quarter : List Cond := .code y_M_quarter b_M_quarter 7 none :: gw
abbrev b_M_cut : ByteArray := prog_7_method_15_code
abbrev y_M_cut : MethodName := ⟨"CurvePathsModel", "cut", "(JJ)V"⟩
abbrev w_M_cut : List Cond := .code y_M_cut b_M_cut 6 none :: gw
abbrev b_M_part : ByteArray := prog_7_method_14_code
abbrev y_M_part : MethodName := ⟨"CurvePathsModel", "part", "(J)V"⟩
abbrev w_M_part : List Cond := .code y_M_part b_M_part 5 none :: gw
abbrev b_M_mix : ByteArray := prog_7_method_13_code
abbrev y_M_mix : MethodName := ⟨"CurvePathsModel", "mix", "(JJJ)J"⟩
abbrev w_M_mix : List Cond := .code y_M_mix b_M_mix 6 (some .long) :: gw
abbrev b_M_beginArc : ByteArray := prog_7_method_17_code
abbrev y_M_beginArc : MethodName := ⟨"CurvePathsModel", "beginArc", "(JJJJ)V"⟩
abbrev w_M_beginArc : List Cond := .code y_M_beginArc b_M_beginArc 13 none :: gw
abbrev b_M_around : ByteArray := prog_7_method_16_code
abbrev y_M_around : MethodName := ⟨"CurvePathsModel", "around", "(JJJI)J"⟩
abbrev w_M_around : List Cond := .code y_M_around b_M_around 8 (some .long) :: gw
abbrev b_M_addCurve : ByteArray := prog_7_method_18_code
abbrev y_M_addCurve : MethodName := ⟨"CurvePathsModel", "addCurve", "(JJZ)V"⟩
abbrev w_M_addCurve : List Cond := .code y_M_addCurve b_M_addCurve 9 none :: gw
abbrev b_M_shift : ByteArray := prog_7_method_23_code
abbrev y_M_shift : MethodName := ⟨"CurvePathsModel", "shift", "(II)I"⟩
abbrev w_M_shift : List Cond := .code y_M_shift b_M_shift 5 (some .int) :: gw
abbrev b_M_reverse : ByteArray := prog_7_method_24_code
abbrev y_M_reverse : MethodName := ⟨"CurvePathsModel", "reverse", "()I"⟩
abbrev w_M_reverse : List Cond := .code y_M_reverse b_M_reverse 3 (some .int) :: gw
abbrev b_M_turn : ByteArray := prog_7_method_25_code
abbrev y_M_turn : MethodName := ⟨"CurvePathsModel", "turn", "(II)V"⟩
abbrev w_M_turn : List Cond := .code y_M_turn b_M_turn 7 none :: gw
abbrev b_M_flatten : ByteArray := prog_7_method_28_code
abbrev y_M_flatten : MethodName := ⟨"CurvePathsModel", "flatten", "(I)I"⟩
abbrev w_M_flatten : List Cond := .code y_M_flatten b_M_flatten 3 (some .int) :: gw
abbrev b_M_lay : ByteArray := prog_7_method_27_code
abbrev y_M_lay : MethodName := ⟨"CurvePathsModel", "lay", "(LCurvePathsModel$Path;JJJJJJJJII)V"⟩
abbrev w_M_lay : List Cond := .code y_M_lay b_M_lay 43 none :: gw
abbrev b_M_isStraight : ByteArray := prog_7_method_26_code
abbrev y_M_isStraight : MethodName := ⟨"CurvePathsModel", "isStraight", "(JJJI)Z"⟩
abbrev w_M_isStraight : List Cond := .code y_M_isStraight b_M_isStraight 7 (some .boolean) :: gw
abbrev b_M_parts : ByteArray := prog_7_method_29_code
abbrev y_M_parts : MethodName := ⟨"CurvePathsModel", "parts", "()I"⟩
abbrev w_M_parts : List Cond := .code y_M_parts b_M_parts 1 (some .int) :: gw
abbrev b_M_kind : ByteArray := prog_7_method_30_code
abbrev y_M_kind : MethodName := ⟨"CurvePathsModel", "kind", "(I)I"⟩
abbrev w_M_kind : List Cond := .code y_M_kind b_M_kind 2 (some .int) :: gw
abbrev b_M_place : ByteArray := prog_7_method_31_code
abbrev y_M_place : MethodName := ⟨"CurvePathsModel", "place", "(II)I"⟩
abbrev w_M_place : List Cond := .code y_M_place b_M_place 3 (some .int) :: gw
abbrev b_M_bound : ByteArray := prog_7_method_32_code
abbrev y_M_bound : MethodName := ⟨"CurvePathsModel", "bound", "(I)I"⟩
abbrev w_M_bound : List Cond := .code y_M_bound b_M_bound 6 (some .int) :: gw
