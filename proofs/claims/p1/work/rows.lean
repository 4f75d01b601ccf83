section
-- ===== PART A: goes FIRST, ahead of the names: the tables' words, and 'selects' of the private methods out of them =====
/-- a private method of a class that the tables say can be made, by its rows of tables_1 -/
def lw_okq (q : MethodName × Nat) : Prop := (q.1.cls ≠ "java/lang/invoke/MethodHandle" ∧ q.1.cls ≠ "java/lang/invoke/VarHandle") ∧ Cond.instantiable q.1.cls q.2 ∈ tables_1 ∧ Cond.privateMethod q.1 ∈ tables_1 ∧ Cond.instanceMethod q.1 ∈ tables_1
theorem lw_p0 : lw_okq (⟨"CurvePaths$Path", "addPart", "(II)V"⟩, 7) := ⟨⟨by decide +kernel, by decide +kernel⟩, List.mem_of_getElem? (i := 77) (by decide +kernel), List.mem_of_getElem? (i := 158) (by decide +kernel), List.mem_of_getElem? (i := 159) (by decide +kernel)⟩
theorem lw_p1 : lw_okq (⟨"CurvePaths$Path", "addPoint", "(II)V"⟩, 7) := ⟨⟨by decide +kernel, by decide +kernel⟩, List.mem_of_getElem? (i := 77) (by decide +kernel), List.mem_of_getElem? (i := 185) (by decide +kernel), List.mem_of_getElem? (i := 186) (by decide +kernel)⟩
theorem lw_p2 : lw_okq (⟨"CurvePaths$Arc", "takePart", "(JII)V"⟩, 5) := ⟨⟨by decide +kernel, by decide +kernel⟩, List.mem_of_getElem? (i := 39) (by decide +kernel), List.mem_of_getElem? (i := 272) (by decide +kernel), List.mem_of_getElem? (i := 273) (by decide +kernel)⟩
theorem lw_p3 : lw_okq (⟨"CurvePaths$Arc", "takeQuarter", "(J)V"⟩, 5) := ⟨⟨by decide +kernel, by decide +kernel⟩, List.mem_of_getElem? (i := 39) (by decide +kernel), List.mem_of_getElem? (i := 276) (by decide +kernel), List.mem_of_getElem? (i := 277) (by decide +kernel)⟩
theorem lw_p4 : lw_okq (⟨"CurvePaths$Arc", "turnQuarter", "()V"⟩, 5) := ⟨⟨by decide +kernel, by decide +kernel⟩, List.mem_of_getElem? (i := 39) (by decide +kernel), List.mem_of_getElem? (i := 284) (by decide +kernel), List.mem_of_getElem? (i := 285) (by decide +kernel)⟩
theorem lw_p5 : lw_okq (⟨"CurvePaths$Arc", "keepBefore", "(I)V"⟩, 5) := ⟨⟨by decide +kernel, by decide +kernel⟩, List.mem_of_getElem? (i := 39) (by decide +kernel), List.mem_of_getElem? (i := 288) (by decide +kernel), List.mem_of_getElem? (i := 289) (by decide +kernel)⟩
theorem lw_p6 : lw_okq (⟨"CurvePaths$Arc", "keepBehind", "(I)V"⟩, 5) := ⟨⟨by decide +kernel, by decide +kernel⟩, List.mem_of_getElem? (i := 39) (by decide +kernel), List.mem_of_getElem? (i := 298) (by decide +kernel), List.mem_of_getElem? (i := 299) (by decide +kernel)⟩
theorem lw_p7 : lw_okq (⟨"CurvePaths$Arc", "addTaken", "()V"⟩, 5) := ⟨⟨by decide +kernel, by decide +kernel⟩, List.mem_of_getElem? (i := 39) (by decide +kernel), List.mem_of_getElem? (i := 302) (by decide +kernel), List.mem_of_getElem? (i := 303) (by decide +kernel)⟩
theorem lw_p8 : lw_okq (⟨"CurvePaths$Arc", "addPoint", "(II)V"⟩, 5) := ⟨⟨by decide +kernel, by decide +kernel⟩, List.mem_of_getElem? (i := 39) (by decide +kernel), List.mem_of_getElem? (i := 306) (by decide +kernel), List.mem_of_getElem? (i := 307) (by decide +kernel)⟩
theorem lw_p9 : lw_okq (⟨"CurvePaths", "addSweep", "()I"⟩, 5) := ⟨⟨by decide +kernel, by decide +kernel⟩, List.mem_of_getElem? (i := 12) (by decide +kernel), List.mem_of_getElem? (i := 331) (by decide +kernel), List.mem_of_getElem? (i := 332) (by decide +kernel)⟩
theorem lw_p10 : lw_okq (⟨"CurvePaths$Path", "turnSubpath", "(II)V"⟩, 7) := ⟨⟨by decide +kernel, by decide +kernel⟩, List.mem_of_getElem? (i := 77) (by decide +kernel), List.mem_of_getElem? (i := 362) (by decide +kernel), List.mem_of_getElem? (i := 363) (by decide +kernel)⟩
theorem lw_p11 : lw_okq (⟨"CurvePaths", "addFlattened", "(II)Z"⟩, 5) := ⟨⟨by decide +kernel, by decide +kernel⟩, List.mem_of_getElem? (i := 12) (by decide +kernel), List.mem_of_getElem? (i := 380) (by decide +kernel), List.mem_of_getElem? (i := 381) (by decide +kernel)⟩
theorem lw_p12 : lw_okq (⟨"CurvePaths$Halving", "isFlat", "(II)Z"⟩, 2) := ⟨⟨by decide +kernel, by decide +kernel⟩, List.mem_of_getElem? (i := 64) (by decide +kernel), List.mem_of_getElem? (i := 393) (by decide +kernel), List.mem_of_getElem? (i := 394) (by decide +kernel)⟩
theorem lw_p13 : lw_okq (⟨"CurvePaths$Halving", "isFlatAlong", "(II)Z"⟩, 2) := ⟨⟨by decide +kernel, by decide +kernel⟩, List.mem_of_getElem? (i := 64) (by decide +kernel), List.mem_of_getElem? (i := 397) (by decide +kernel), List.mem_of_getElem? (i := 398) (by decide +kernel)⟩
theorem lw_p14 : lw_okq (⟨"CurvePaths$Halving", "isStraight", "(II)Z"⟩, 2) := ⟨⟨by decide +kernel, by decide +kernel⟩, List.mem_of_getElem? (i := 64) (by decide +kernel), List.mem_of_getElem? (i := 401) (by decide +kernel), List.mem_of_getElem? (i := 402) (by decide +kernel)⟩
theorem lw_p15 : lw_okq (⟨"CurvePaths$Halving", "halve", "(I)V"⟩, 2) := ⟨⟨by decide +kernel, by decide +kernel⟩, List.mem_of_getElem? (i := 64) (by decide +kernel), List.mem_of_getElem? (i := 408) (by decide +kernel), List.mem_of_getElem? (i := 409) (by decide +kernel)⟩
def lw_privs_1 : List (MethodName × Nat) := [(⟨"CurvePaths$Path", "addPart", "(II)V"⟩, 7), (⟨"CurvePaths$Path", "addPoint", "(II)V"⟩, 7), (⟨"CurvePaths$Arc", "takePart", "(JII)V"⟩, 5), (⟨"CurvePaths$Arc", "takeQuarter", "(J)V"⟩, 5), (⟨"CurvePaths$Arc", "turnQuarter", "()V"⟩, 5), (⟨"CurvePaths$Arc", "keepBefore", "(I)V"⟩, 5), (⟨"CurvePaths$Arc", "keepBehind", "(I)V"⟩, 5), (⟨"CurvePaths$Arc", "addTaken", "()V"⟩, 5), (⟨"CurvePaths$Arc", "addPoint", "(II)V"⟩, 5), (⟨"CurvePaths", "addSweep", "()I"⟩, 5), (⟨"CurvePaths$Path", "turnSubpath", "(II)V"⟩, 7), (⟨"CurvePaths", "addFlattened", "(II)Z"⟩, 5), (⟨"CurvePaths$Halving", "isFlat", "(II)Z"⟩, 2), (⟨"CurvePaths$Halving", "isFlatAlong", "(II)Z"⟩, 2), (⟨"CurvePaths$Halving", "isStraight", "(II)Z"⟩, 2), (⟨"CurvePaths$Halving", "halve", "(I)V"⟩, 2)]
theorem lw_r1 : ∀ q ∈ lw_privs_1, lw_okq q := List.forall_mem_cons.mpr ⟨lw_p0, List.forall_mem_cons.mpr ⟨lw_p1, List.forall_mem_cons.mpr ⟨lw_p2, List.forall_mem_cons.mpr ⟨lw_p3, List.forall_mem_cons.mpr ⟨lw_p4, List.forall_mem_cons.mpr ⟨lw_p5, List.forall_mem_cons.mpr ⟨lw_p6, List.forall_mem_cons.mpr ⟨lw_p7, List.forall_mem_cons.mpr ⟨lw_p8, List.forall_mem_cons.mpr ⟨lw_p9, List.forall_mem_cons.mpr ⟨lw_p10, List.forall_mem_cons.mpr ⟨lw_p11, List.forall_mem_cons.mpr ⟨lw_p12, List.forall_mem_cons.mpr ⟨lw_p13, List.forall_mem_cons.mpr ⟨lw_p14, List.forall_mem_cons.mpr ⟨lw_p15, fun _ h => absurd h List.not_mem_nil⟩⟩⟩⟩⟩⟩⟩⟩⟩⟩⟩⟩⟩⟩⟩⟩
theorem lw_p16 : lw_okq (⟨"CurvePaths$Halving", "halveAlong", "(I)V"⟩, 2) := ⟨⟨by decide +kernel, by decide +kernel⟩, List.mem_of_getElem? (i := 64) (by decide +kernel), List.mem_of_getElem? (i := 412) (by decide +kernel), List.mem_of_getElem? (i := 413) (by decide +kernel)⟩
theorem lw_p17 : lw_okq (⟨"CurvePaths$Halving", "setPiece", "(IIIII)V"⟩, 2) := ⟨⟨by decide +kernel, by decide +kernel⟩, List.mem_of_getElem? (i := 64) (by decide +kernel), List.mem_of_getElem? (i := 416) (by decide +kernel), List.mem_of_getElem? (i := 417) (by decide +kernel)⟩
theorem lw_p18 : lw_okq (⟨"CurvePathsModel", "settle", "()I"⟩, 7) := ⟨⟨by decide +kernel, by decide +kernel⟩, List.mem_of_getElem? (i := 469) (by decide +kernel), List.mem_of_getElem? (i := 566) (by decide +kernel), List.mem_of_getElem? (i := 567) (by decide +kernel)⟩
theorem lw_p19 : lw_okq (⟨"CurvePathsModel", "addArc", "(JJJJZ)V"⟩, 7) := ⟨⟨by decide +kernel, by decide +kernel⟩, List.mem_of_getElem? (i := 469) (by decide +kernel), List.mem_of_getElem? (i := 611) (by decide +kernel), List.mem_of_getElem? (i := 612) (by decide +kernel)⟩
theorem lw_p20 : lw_okq (⟨"CurvePathsModel", "quarter", "(J)V"⟩, 7) := ⟨⟨by decide +kernel, by decide +kernel⟩, List.mem_of_getElem? (i := 469) (by decide +kernel), List.mem_of_getElem? (i := 629) (by decide +kernel), List.mem_of_getElem? (i := 630) (by decide +kernel)⟩
theorem lw_p21 : lw_okq (⟨"CurvePathsModel", "cut", "(JJ)V"⟩, 7) := ⟨⟨by decide +kernel, by decide +kernel⟩, List.mem_of_getElem? (i := 469) (by decide +kernel), List.mem_of_getElem? (i := 635) (by decide +kernel), List.mem_of_getElem? (i := 636) (by decide +kernel)⟩
theorem lw_p22 : lw_okq (⟨"CurvePathsModel", "part", "(J)V"⟩, 7) := ⟨⟨by decide +kernel, by decide +kernel⟩, List.mem_of_getElem? (i := 469) (by decide +kernel), List.mem_of_getElem? (i := 639) (by decide +kernel), List.mem_of_getElem? (i := 640) (by decide +kernel)⟩
theorem lw_p23 : lw_okq (⟨"CurvePathsModel", "beginArc", "(JJJJ)V"⟩, 7) := ⟨⟨by decide +kernel, by decide +kernel⟩, List.mem_of_getElem? (i := 469) (by decide +kernel), List.mem_of_getElem? (i := 648) (by decide +kernel), List.mem_of_getElem? (i := 649) (by decide +kernel)⟩
theorem lw_p24 : lw_okq (⟨"CurvePathsModel", "around", "(JJJI)J"⟩, 7) := ⟨⟨by decide +kernel, by decide +kernel⟩, List.mem_of_getElem? (i := 469) (by decide +kernel), List.mem_of_getElem? (i := 652) (by decide +kernel), List.mem_of_getElem? (i := 653) (by decide +kernel)⟩
theorem lw_p25 : lw_okq (⟨"CurvePathsModel", "addCurve", "(JJZ)V"⟩, 7) := ⟨⟨by decide +kernel, by decide +kernel⟩, List.mem_of_getElem? (i := 469) (by decide +kernel), List.mem_of_getElem? (i := 656) (by decide +kernel), List.mem_of_getElem? (i := 657) (by decide +kernel)⟩
theorem lw_p26 : lw_okq (⟨"CurvePathsModel", "turn", "(II)V"⟩, 7) := ⟨⟨by decide +kernel, by decide +kernel⟩, List.mem_of_getElem? (i := 469) (by decide +kernel), List.mem_of_getElem? (i := 668) (by decide +kernel), List.mem_of_getElem? (i := 669) (by decide +kernel)⟩
def lw_privs_2 : List (MethodName × Nat) := [(⟨"CurvePaths$Halving", "halveAlong", "(I)V"⟩, 2), (⟨"CurvePaths$Halving", "setPiece", "(IIIII)V"⟩, 2), (⟨"CurvePathsModel", "settle", "()I"⟩, 7), (⟨"CurvePathsModel", "addArc", "(JJJJZ)V"⟩, 7), (⟨"CurvePathsModel", "quarter", "(J)V"⟩, 7), (⟨"CurvePathsModel", "cut", "(JJ)V"⟩, 7), (⟨"CurvePathsModel", "part", "(J)V"⟩, 7), (⟨"CurvePathsModel", "beginArc", "(JJJJ)V"⟩, 7), (⟨"CurvePathsModel", "around", "(JJJI)J"⟩, 7), (⟨"CurvePathsModel", "addCurve", "(JJZ)V"⟩, 7), (⟨"CurvePathsModel", "turn", "(II)V"⟩, 7)]
theorem lw_r2 : ∀ q ∈ lw_privs_2, lw_okq q := List.forall_mem_cons.mpr ⟨lw_p16, List.forall_mem_cons.mpr ⟨lw_p17, List.forall_mem_cons.mpr ⟨lw_p18, List.forall_mem_cons.mpr ⟨lw_p19, List.forall_mem_cons.mpr ⟨lw_p20, List.forall_mem_cons.mpr ⟨lw_p21, List.forall_mem_cons.mpr ⟨lw_p22, List.forall_mem_cons.mpr ⟨lw_p23, List.forall_mem_cons.mpr ⟨lw_p24, List.forall_mem_cons.mpr ⟨lw_p25, List.forall_mem_cons.mpr ⟨lw_p26, fun _ h => absurd h List.not_mem_nil⟩⟩⟩⟩⟩⟩⟩⟩⟩⟩⟩
def lw_privs : List (MethodName × Nat) := lw_privs_1 ++ (lw_privs_2)
def lw_tbl : List Cond := k2_sels lw_privs ++ tables_1
theorem lw_privs_ok : ∀ q ∈ lw_privs, lw_okq q := by
  show ∀ q ∈ lw_privs_1 ++ (lw_privs_2), lw_okq q
  exact List.forall_mem_append.mpr ⟨lw_r1, lw_r2⟩
end
section
def R_CP : String := "CurvePaths"
def T_CP : u_T := fun k => match k with
  | 0 => ("CurvePaths", "directions", "LCurvePaths$Axes;", true)
  | 1 => ("CurvePaths", "sweep", "LCurvePaths$Arc;", true)
  | 2 => ("CurvePaths", "halving", "LCurvePaths$Halving;", true)
  | 3 => ("CurvePaths", "path", "LCurvePaths$Path;", false)
  | _ => ("CurvePaths", "spare", "LCurvePaths$Path;", false)
def t_CP : Nat → FieldType := fun k => match k with
  | 0 => (.object "CurvePaths$Axes")
  | 1 => (.object "CurvePaths$Arc")
  | 2 => (.object "CurvePaths$Halving")
  | 3 => (.object "CurvePaths$Path")
  | _ => (.object "CurvePaths$Path")
theorem nk_CP : ∀ a, a < 5 → ∀ b, b < 5 → a ≠ b → (T_CP a).2.1 ≠ (T_CP b).2.1 := by decide +kernel
theorem tk_CP : ∀ k, k < 5 → parseFieldDescriptor (T_CP k).2.2.1 = some (t_CP k) := by decide +kernel
def R_M : String := "CurvePathsModel"
def T_M : u_T := fun k => match k with
  | 0 => ("CurvePathsModel", "path", "LCurvePathsModel$Path;", false)
  | 1 => ("CurvePathsModel", "draft", "LCurvePathsModel$Path;", false)
  | 2 => ("CurvePathsModel", "axes", "[J", true)
  | 3 => ("CurvePathsModel", "unit", "[J", true)
  | 4 => ("CurvePathsModel", "before", "[J", true)
  | 5 => ("CurvePathsModel", "behind", "[J", true)
  | _ => ("CurvePathsModel", "mixed", "[J", true)
def t_M : Nat → FieldType := fun k => match k with
  | 0 => (.object "CurvePathsModel$Path")
  | 1 => (.object "CurvePathsModel$Path")
  | 2 => (.array .long)
  | 3 => (.array .long)
  | 4 => (.array .long)
  | 5 => (.array .long)
  | _ => (.array .long)
theorem nk_M : ∀ a, a < 7 → ∀ b, b < 7 → a ≠ b → (T_M a).2.1 ≠ (T_M b).2.1 := by decide +kernel
theorem tk_M : ∀ k, k < 7 → parseFieldDescriptor (T_M k).2.2.1 = some (t_M k) := by decide +kernel
def R_Arc : String := "CurvePaths$Arc"
def T_Arc : u_T := fun k => match k with
  | 0 => ("CurvePaths$Arc", "xs", "[I", true)
  | 1 => ("CurvePaths$Arc", "ys", "[I", true)
  | 2 => ("CurvePaths$Arc", "as", "[I", true)
  | 3 => ("CurvePaths$Arc", "bs", "[I", true)
  | _ => ("CurvePaths$Arc", "pointCount", "I", false)
def t_Arc : Nat → FieldType := fun k => match k with
  | 0 => (.array .int)
  | 1 => (.array .int)
  | 2 => (.array .int)
  | 3 => (.array .int)
  | _ => .int
theorem nk_Arc : ∀ a, a < 5 → ∀ b, b < 5 → a ≠ b → (T_Arc a).2.1 ≠ (T_Arc b).2.1 := by decide +kernel
theorem tk_Arc : ∀ k, k < 5 → parseFieldDescriptor (T_Arc k).2.2.1 = some (t_Arc k) := by decide +kernel
def R_Axes : String := "CurvePaths$Axes"
def T_Axes : u_T := fun k => match k with
  | 0 => ("CurvePaths$Axes", "p", "J", false)
  | 1 => ("CurvePaths$Axes", "q", "J", false)
  | 2 => ("CurvePaths$Axes", "\x72", "J", false)
  | _ => ("CurvePaths$Axes", "s", "J", false)
def t_Axes : Nat → FieldType := fun k => match k with
  | 0 => .long
  | 1 => .long
  | 2 => .long
  | _ => .long
theorem nk_Axes : ∀ a, a < 4 → ∀ b, b < 4 → a ≠ b → (T_Axes a).2.1 ≠ (T_Axes b).2.1 := by decide +kernel
theorem tk_Axes : ∀ k, k < 4 → parseFieldDescriptor (T_Axes k).2.2.1 = some (t_Axes k) := by decide +kernel
def R_Halving : String := "CurvePaths$Halving"
def T_Halving : u_T := fun k => match k with
  | 0 => ("CurvePaths$Halving", "pieces", "[I", true)
  | _ => ("CurvePaths$Halving", "halvings", "[I", true)
def t_Halving : Nat → FieldType := fun k => match k with
  | 0 => (.array .int)
  | _ => (.array .int)
theorem nk_Halving : ∀ a, a < 2 → ∀ b, b < 2 → a ≠ b → (T_Halving a).2.1 ≠ (T_Halving b).2.1 := by decide +kernel
theorem tk_Halving : ∀ k, k < 2 → parseFieldDescriptor (T_Halving k).2.2.1 = some (t_Halving k) := by decide +kernel
def R_Path : String := "CurvePaths$Path"
def T_Path : u_T := fun k => match k with
  | 0 => ("CurvePaths$Path", "kinds", "[I", false)
  | 1 => ("CurvePaths$Path", "firsts", "[I", false)
  | 2 => ("CurvePaths$Path", "xs", "[I", false)
  | 3 => ("CurvePaths$Path", "ys", "[I", false)
  | 4 => ("CurvePaths$Path", "partCount", "I", false)
  | 5 => ("CurvePaths$Path", "pointCount", "I", false)
  | _ => ("CurvePaths$Path", "begunAt", "I", false)
def t_Path : Nat → FieldType := fun k => match k with
  | 0 => (.array .int)
  | 1 => (.array .int)
  | 2 => (.array .int)
  | 3 => (.array .int)
  | 4 => .int
  | 5 => .int
  | _ => .int
theorem nk_Path : ∀ a, a < 7 → ∀ b, b < 7 → a ≠ b → (T_Path a).2.1 ≠ (T_Path b).2.1 := by decide +kernel
theorem tk_Path : ∀ k, k < 7 → parseFieldDescriptor (T_Path k).2.2.1 = some (t_Path k) := by decide +kernel
def R_MPath : String := "CurvePathsModel$Path"
def T_MPath : u_T := fun k => match k with
  | 0 => ("CurvePathsModel$Path", "kinds", "[B", true)
  | 1 => ("CurvePathsModel$Path", "places", "[I", true)
  | 2 => ("CurvePathsModel$Path", "size", "I", false)
  | 3 => ("CurvePathsModel$Path", "full", "Z", false)
  | _ => ("CurvePathsModel$Path", "far", "Z", false)
def t_MPath : Nat → FieldType := fun k => match k with
  | 0 => (.array .byte)
  | 1 => (.array .int)
  | 2 => .int
  | 3 => .boolean
  | _ => .boolean
theorem nk_MPath : ∀ a, a < 5 → ∀ b, b < 5 → a ≠ b → (T_MPath a).2.1 ≠ (T_MPath b).2.1 := by decide +kernel
theorem tk_MPath : ∀ k, k < 5 → parseFieldDescriptor (T_MPath k).2.2.1 = some (t_MPath k) := by decide +kernel
abbrev cl : List vw_C := [(R_CP, T_CP, 5), (R_M, T_M, 7), (R_Arc, T_Arc, 5), (R_Axes, T_Axes, 4), (R_Halving, T_Halving, 2), (R_Path, T_Path, 7), (R_MPath, T_MPath, 5)]
/-- a word that stays: of the tables, or of an array class -/
def gd (w : Cond) : Bool := (w.onTables && w.keeps) || (match w with | .arrayClass _ => true | _ => false)
def gw : List Cond := lw_tbl.filter gd
theorem gw_in {w : Cond} (k : Nat) (h : lw_tbl[k]? = some w) (hg : gd w = true) : w ∈ gw := List.mem_filter.mpr ⟨List.mem_of_getElem? h, hg⟩
theorem gwc {w c : Cond} (h : w ∈ gw) : w ∈ c :: gw := List.mem_cons_of_mem _ h
theorem gd_ok {w : Cond} (h : gd w = true) : (w.onTables && w.keeps) = true ∨ ∃ ty, w = .arrayClass ty := by
  unfold gd at h
  rcases Bool.or_eq_true _ _ ▸ h with h | h
  · exact Or.inl h
  · split at h
    · exact Or.inr ⟨_, rfl⟩
    · cases h
theorem gi_1 {w c : Cond} (h : w ∈ gw) : w ∈ c :: gw ∧ ((w.onTables && w.keeps) = true ∨ ∃ ty, w = .arrayClass ty) := ⟨gwc h, gd_ok (List.mem_filter.mp h).2⟩
theorem gi_N {k c : Cond} (h : k ∈ gw) : GoodIn (c :: gw) (k :: gw) := fun w hw => by
  rcases List.mem_cons.mp hw with q | q
  · rw [q]; exact gi_1 h
  · exact gi_1 q
theorem gi_V {own C : String} {i : Nat} {y : MethodName} {k c : Cond} (h1 : Cond.methodLink own i y ∈ gw) (h2 : Cond.instanceMethod y ∈ gw) (h3 : Cond.selects C y y ∈ gw) (h4 : Cond.initialized C ∈ gw) (h : k ∈ gw) : GoodIn (c :: gw) (wsV own i C y (k :: gw)) := fun w hw => by
  rcases List.mem_append.mp hw with q | q
  · simp only [List.mem_cons, List.not_mem_nil, or_false] at q
    rcases q with q | q | q | q <;> rw [q]
    · exact gi_1 h1
    · exact gi_1 h2
    · exact gi_1 h3
    · exact gi_1 h4
  · exact gi_N h w q
theorem gi_S {own : String} {i : Nat} {y : MethodName} {k c : Cond} (h1 : Cond.methodLink own i y ∈ gw) (h2 : Cond.static y ∈ gw) (h4 : Cond.initialized y.cls ∈ gw) (h : k ∈ gw) : GoodIn (c :: gw) (va_wsS own i y (k :: gw)) := fun w hw => by
  rcases List.mem_append.mp hw with q | q
  · simp only [List.mem_cons, List.not_mem_nil, or_false] at q
    rcases q with q | q | q <;> rw [q]
    · exact gi_1 h1
    · exact gi_1 h2
    · exact gi_1 h4
  · exact gi_N h w q
theorem ux_CP : ∀ w ∈ u_ws R_CP T_CP 5, w ∈ gw := by decide +kernel
theorem ui_CP (c : Cond) : ∀ w ∈ u_ws R_CP T_CP 5, w ∈ c :: gw := fun w h => gwc (ux_CP w h)
theorem ux_M : ∀ w ∈ u_ws R_M T_M 7, w ∈ gw := by decide +kernel
theorem ui_M (c : Cond) : ∀ w ∈ u_ws R_M T_M 7, w ∈ c :: gw := fun w h => gwc (ux_M w h)
theorem ux_Arc : ∀ w ∈ u_ws R_Arc T_Arc 5, w ∈ gw := by decide +kernel
theorem ui_Arc (c : Cond) : ∀ w ∈ u_ws R_Arc T_Arc 5, w ∈ c :: gw := fun w h => gwc (ux_Arc w h)
theorem ux_Axes : ∀ w ∈ u_ws R_Axes T_Axes 4, w ∈ gw := by decide +kernel
theorem ui_Axes (c : Cond) : ∀ w ∈ u_ws R_Axes T_Axes 4, w ∈ c :: gw := fun w h => gwc (ux_Axes w h)
theorem ux_Halving : ∀ w ∈ u_ws R_Halving T_Halving 2, w ∈ gw := by decide +kernel
theorem ui_Halving (c : Cond) : ∀ w ∈ u_ws R_Halving T_Halving 2, w ∈ c :: gw := fun w h => gwc (ux_Halving w h)
theorem ux_Path : ∀ w ∈ u_ws R_Path T_Path 7, w ∈ gw := by decide +kernel
theorem ui_Path (c : Cond) : ∀ w ∈ u_ws R_Path T_Path 7, w ∈ c :: gw := fun w h => gwc (ux_Path w h)
theorem ux_MPath : ∀ w ∈ u_ws R_MPath T_MPath 5, w ∈ gw := by decide +kernel
theorem ui_MPath (c : Cond) : ∀ w ∈ u_ws R_MPath T_MPath 5, w ∈ c :: gw := fun w h => gwc (ux_MPath w h)
abbrev b_CP_init : ByteArray := prog_1_method_1_code
abbrev y_CP_init : MethodName := ⟨"CurvePaths", "<init>", "()V"⟩
abbrev w_CP_init : List Cond := .code y_CP_init b_CP_init 1 none :: gw
abbrev b_Object_init : ByteArray := object_method_1_code
abbrev y_Object_init : MethodName := ⟨"java/lang/Object", "<init>", "()V"⟩
abbrev w_Object_init : List Cond := .code y_Object_init b_Object_init 1 none :: gw
abbrev b_Axes_init : ByteArray := prog_3_method_1_code
abbrev y_Axes_init : MethodName := ⟨"CurvePaths$Axes", "<init>", "()V"⟩
abbrev w_Axes_init : List Cond := .code y_Axes_init b_Axes_init 1 none :: gw
abbrev b_Arc_init : ByteArray := prog_2_method_1_code
abbrev y_Arc_init : MethodName := ⟨"CurvePaths$Arc", "<init>", "()V"⟩
abbrev w_Arc_init : List Cond := .code y_Arc_init b_Arc_init 1 none :: gw
abbrev b_Halving_init : ByteArray := prog_4_method_1_code
abbrev y_Halving_init : MethodName := ⟨"CurvePaths$Halving", "<init>", "()V"⟩
abbrev w_Halving_init : List Cond := .code y_Halving_init b_Halving_init 1 none :: gw
abbrev b_Path_init : ByteArray := prog_5_method_1_code
abbrev y_Path_init : MethodName := ⟨"CurvePaths$Path", "<init>", "()V"⟩
abbrev w_Path_init : List Cond := .code y_Path_init b_Path_init 1 none :: gw
abbrev b_CP_move : ByteArray := prog_1_method_2_code
abbrev y_CP_move : MethodName := ⟨"CurvePaths", "move", "(II)I"⟩
abbrev w_CP_move : List Cond := .code y_CP_move b_CP_move 3 (some .int) :: gw
abbrev b_CP_isFarPoint : ByteArray := prog_1_method_23_code
abbrev y_CP_isFarPoint : MethodName := ⟨"CurvePaths", "isFarPoint", "(JJ)Z"⟩
abbrev w_CP_isFarPoint : List Cond := .code y_CP_isFarPoint b_CP_isFarPoint 4 (some .boolean) :: gw
abbrev b_CP_isFar : ByteArray := prog_1_method_22_code
abbrev y_CP_isFar : MethodName := ⟨"CurvePaths", "isFar", "(J)Z"⟩
abbrev w_CP_isFar : List Cond := .code y_CP_isFar b_CP_isFar 2 (some .boolean) :: gw
abbrev b_Path_onlyBegan : ByteArray := prog_5_method_4_code
abbrev y_Path_onlyBegan : MethodName := ⟨"CurvePaths$Path", "onlyBegan", "()Z"⟩
abbrev w_Path_onlyBegan : List Cond := .code y_Path_onlyBegan b_Path_onlyBegan 1 (some .boolean) :: gw
abbrev b_Path_replaceBeginning : ByteArray := prog_5_method_12_code
abbrev y_Path_replaceBeginning : MethodName := ⟨"CurvePaths$Path", "replaceBeginning", "(II)V"⟩
abbrev w_Path_replaceBeginning : List Cond := .code y_Path_replaceBeginning b_Path_replaceBeginning 3 none :: gw
abbrev b_Path_takes : ByteArray := prog_5_method_6_code
abbrev y_Path_takes : MethodName := ⟨"CurvePaths$Path", "takes", "(I)Z"⟩
abbrev w_Path_takes : List Cond := .code y_Path_takes b_Path_takes 2 (some .boolean) :: gw
abbrev b_Path_addBeginning : ByteArray := prog_5_method_13_code
abbrev y_Path_addBeginning : MethodName := ⟨"CurvePaths$Path", "addBeginning", "(II)V"⟩
abbrev w_Path_addBeginning : List Cond := .code y_Path_addBeginning b_Path_addBeginning 3 none :: gw
abbrev b_Path_addPart : ByteArray := prog_5_method_20_code
abbrev y_Path_addPart : MethodName := ⟨"CurvePaths$Path", "addPart", "(II)V"⟩
abbrev w_Path_addPart : List Cond := .code y_Path_addPart b_Path_addPart 3 none :: gw
abbrev b_CP_withRoom : ByteArray := prog_1_method_29_code
abbrev y_CP_withRoom : MethodName := ⟨"CurvePaths", "withRoom", "([III)[I"⟩
abbrev w_CP_withRoom : List Cond := .code y_CP_withRoom b_CP_withRoom 3 (some (.array .int)) :: gw
abbrev b_Math_min : ByteArray := prog_10_method_69_code
abbrev y_Math_min : MethodName := ⟨"java/lang/Math", "min", "(II)I"⟩
abbrev w_Math_min : List Cond := .code y_Math_min b_Math_min 2 (some .int) :: gw
abbrev b_Math_max : ByteArray := prog_10_method_65_code
abbrev y_Math_max : MethodName := ⟨"java/lang/Math", "max", "(II)I"⟩
abbrev w_Math_max : List Cond := .code y_Math_max b_Math_max 2 (some .int) :: gw
abbrev b_Arrays_copyOf : ByteArray := prog_12_method_123_code
abbrev y_Arrays_copyOf : MethodName := ⟨"java/util/Arrays", "copyOf", "([II)[I"⟩
abbrev w_Arrays_copyOf : List Cond := .code y_Arrays_copyOf b_Arrays_copyOf 3 (some (.array .int)) :: gw
abbrev b_Path_addPoint : ByteArray := prog_5_method_21_code
abbrev y_Path_addPoint : MethodName := ⟨"CurvePaths$Path", "addPoint", "(II)V"⟩
abbrev w_Path_addPoint : List Cond := .code y_Path_addPoint b_Path_addPoint 3 none :: gw
abbrev b_CP_line : ByteArray := prog_1_method_3_code
abbrev y_CP_line : MethodName := ⟨"CurvePaths", "line", "(II)I"⟩
abbrev w_CP_line : List Cond := .code y_CP_line b_CP_line 3 (some .int) :: gw
abbrev b_Path_isEmpty : ByteArray := prog_5_method_2_code
abbrev y_Path_isEmpty : MethodName := ⟨"CurvePaths$Path", "isEmpty", "()Z"⟩
abbrev w_Path_isEmpty : List Cond := .code y_Path_isEmpty b_Path_isEmpty 1 (some .boolean) :: gw
abbrev b_Path_takesSegments : ByteArray := prog_5_method_7_code
abbrev y_Path_takesSegments : MethodName := ⟨"CurvePaths$Path", "takesSegments", "(I)Z"⟩
abbrev w_Path_takesSegments : List Cond := .code y_Path_takesSegments b_Path_takesSegments 2 (some .boolean) :: gw
abbrev b_Path_isClosed : ByteArray := prog_5_method_5_code
abbrev y_Path_isClosed : MethodName := ⟨"CurvePaths$Path", "isClosed", "()Z"⟩
abbrev w_Path_isClosed : List Cond := .code y_Path_isClosed b_Path_isClosed 1 (some .boolean) :: gw
abbrev b_Path_goOn : ByteArray := prog_5_method_17_code
abbrev y_Path_goOn : MethodName := ⟨"CurvePaths$Path", "goOn", "()V"⟩
abbrev w_Path_goOn : List Cond := .code y_Path_goOn b_Path_goOn 1 none :: gw
abbrev b_Path_addLine : ByteArray := prog_5_method_14_code
abbrev y_Path_addLine : MethodName := ⟨"CurvePaths$Path", "addLine", "(II)V"⟩
abbrev w_Path_addLine : List Cond := .code y_Path_addLine b_Path_addLine 3 none :: gw
abbrev b_CP_curve : ByteArray := prog_1_method_4_code
abbrev y_CP_curve : MethodName := ⟨"CurvePaths", "curve", "(IIIIII)I"⟩
abbrev w_CP_curve : List Cond := .code y_CP_curve b_CP_curve 7 (some .int) :: gw
abbrev b_Path_addCurve : ByteArray := prog_5_method_15_code
abbrev y_Path_addCurve : MethodName := ⟨"CurvePaths$Path", "addCurve", "(IIIIII)V"⟩
abbrev w_Path_addCurve : List Cond := .code y_Path_addCurve b_Path_addCurve 7 none :: gw
abbrev b_CP_close : ByteArray := prog_1_method_5_code
abbrev y_CP_close : MethodName := ⟨"CurvePaths", "close", "()I"⟩
abbrev w_CP_close : List Cond := .code y_CP_close b_CP_close 1 (some .int) :: gw
abbrev b_Path_addClosing : ByteArray := prog_5_method_16_code
abbrev y_Path_addClosing : MethodName := ⟨"CurvePaths$Path", "addClosing", "()V"⟩
abbrev w_Path_addClosing : List Cond := .code y_Path_addClosing b_Path_addClosing 1 none :: gw
abbrev b_CP_axes : ByteArray := prog_1_method_6_code
abbrev y_CP_axes : MethodName := ⟨"CurvePaths", "axes", "(IIII)Z"⟩
abbrev w_CP_axes : List Cond := .code y_CP_axes b_CP_axes 5 (some .boolean) :: gw
abbrev b_Axes_set : ByteArray := prog_3_method_2_code
abbrev y_Axes_set : MethodName := ⟨"CurvePaths$Axes", "set", "(IIII)V"⟩
abbrev w_Axes_set : List Cond := .code y_Axes_set b_Axes_set 5 none :: gw
abbrev b_CP_arc : ByteArray := prog_1_method_7_code
abbrev y_CP_arc : MethodName := ⟨"CurvePaths", "arc", "(IIIII)I"⟩
abbrev w_CP_arc : List Cond := .code y_CP_arc b_CP_arc 8 (some .int) :: gw
abbrev b_CP_notBelow : ByteArray := prog_1_method_20_code
abbrev y_CP_notBelow : MethodName := ⟨"CurvePaths", "notBelow", "(JJ)J"⟩
abbrev w_CP_notBelow : List Cond := .code y_CP_notBelow b_CP_notBelow 4 (some .long) :: gw
abbrev b_Math_floorMod : ByteArray := prog_10_method_52_code
abbrev y_Math_floorMod : MethodName := ⟨"java/lang/Math", "floorMod", "(JJ)J"⟩
abbrev w_Math_floorMod : List Cond := .code y_Math_floorMod b_Math_floorMod 6 (some .long) :: gw
abbrev b_CP_notAbove : ByteArray := prog_1_method_21_code
abbrev y_CP_notAbove : MethodName := ⟨"CurvePaths", "notAbove", "(JJ)J"⟩
abbrev w_CP_notAbove : List Cond := .code y_CP_notAbove b_CP_notAbove 4 (some .long) :: gw
abbrev b_Math_abs : ByteArray := prog_10_method_61_code
abbrev y_Math_abs : MethodName := ⟨"java/lang/Math", "abs", "(J)J"⟩
abbrev w_Math_abs : List Cond := .code y_Math_abs b_Math_abs 2 (some .long) :: gw
abbrev b_Arc_reckon : ByteArray := prog_2_method_3_code
abbrev y_Arc_reckon : MethodName := ⟨"CurvePaths$Arc", "reckon", "(JJ)V"⟩
abbrev w_Arc_reckon : List Cond := .code y_Arc_reckon b_Arc_reckon 16 none :: gw
abbrev b_Math_floorDiv : ByteArray := prog_10_method_49_code
abbrev y_Math_floorDiv : MethodName := ⟨"java/lang/Math", "floorDiv", "(JJ)J"⟩
abbrev w_Math_floorDiv : List Cond := .code y_Math_floorDiv b_Math_floorDiv 6 (some .long) :: gw
abbrev b_Arc_placeIn : ByteArray := prog_2_method_7_code
abbrev y_Arc_placeIn : MethodName := ⟨"CurvePaths$Arc", "placeIn", "(JJ)I"⟩
abbrev w_Arc_placeIn : List Cond := .code y_Arc_placeIn b_Arc_placeIn 4 (some .int) :: gw
abbrev b_Arc_takePart : ByteArray := prog_2_method_8_code
abbrev y_Arc_takePart : MethodName := ⟨"CurvePaths$Arc", "takePart", "(JII)V"⟩
abbrev w_Arc_takePart : List Cond := .code y_Arc_takePart b_Arc_takePart 5 none :: gw
abbrev b_Arc_takeQuarter : ByteArray := prog_2_method_9_code
abbrev y_Arc_takeQuarter : MethodName := ⟨"CurvePaths$Arc", "takeQuarter", "(J)V"⟩
abbrev w_Arc_takeQuarter : List Cond := .code y_Arc_takeQuarter b_Arc_takeQuarter 5 none :: gw
abbrev b_Arc_turnQuarter : ByteArray := prog_2_method_10_code
abbrev y_Arc_turnQuarter : MethodName := ⟨"CurvePaths$Arc", "turnQuarter", "()V"⟩
abbrev w_Arc_turnQuarter : List Cond := .code y_Arc_turnQuarter b_Arc_turnQuarter 3 none :: gw
abbrev b_Arc_keepBefore : ByteArray := prog_2_method_11_code
abbrev y_Arc_keepBefore : MethodName := ⟨"CurvePaths$Arc", "keepBefore", "(I)V"⟩
abbrev w_Arc_keepBefore : List Cond := .code y_Arc_keepBefore b_Arc_keepBefore 4 none :: gw
abbrev b_Arc_mix : ByteArray := prog_2_method_13_code
abbrev y_Arc_mix : MethodName := ⟨"CurvePaths$Arc", "mix", "(III)I"⟩
abbrev w_Arc_mix : List Cond := .code y_Arc_mix b_Arc_mix 3 (some .int) :: gw
abbrev b_Arc_keepBehind : ByteArray := prog_2_method_12_code
abbrev y_Arc_keepBehind : MethodName := ⟨"CurvePaths$Arc", "keepBehind", "(I)V"⟩
abbrev w_Arc_keepBehind : List Cond := .code y_Arc_keepBehind b_Arc_keepBehind 4 none :: gw
abbrev b_Arc_addTaken : ByteArray := prog_2_method_14_code
abbrev y_Arc_addTaken : MethodName := ⟨"CurvePaths$Arc", "addTaken", "()V"⟩
abbrev w_Arc_addTaken : List Cond := .code y_Arc_addTaken b_Arc_addTaken 2 none :: gw
abbrev b_Arc_addPoint : ByteArray := prog_2_method_15_code
abbrev y_Arc_addPoint : MethodName := ⟨"CurvePaths$Arc", "addPoint", "(II)V"⟩
abbrev w_Arc_addPoint : List Cond := .code y_Arc_addPoint b_Arc_addPoint 3 none :: gw
abbrev b_Arc_turnRound : ByteArray := prog_2_method_4_code
abbrev y_Arc_turnRound : MethodName := ⟨"CurvePaths$Arc", "turnRound", "()V"⟩
abbrev w_Arc_turnRound : List Cond := .code y_Arc_turnRound b_Arc_turnRound 1 none :: gw
abbrev b_CP_turnRow : ByteArray := prog_1_method_28_code
abbrev y_CP_turnRow : MethodName := ⟨"CurvePaths", "turnRow", "([III)V"⟩
abbrev w_CP_turnRow : List Cond := .code y_CP_turnRow b_CP_turnRow 6 none :: gw
abbrev b_Arc_bringTo : ByteArray := prog_2_method_5_code
abbrev y_Arc_bringTo : MethodName := ⟨"CurvePaths$Arc", "bringTo", "(IILCurvePaths$Axes;)Z"⟩
abbrev w_Arc_bringTo : List Cond := .code y_Arc_bringTo b_Arc_bringTo 9 (some .boolean) :: gw
abbrev b_Axes_alongX : ByteArray := prog_3_method_3_code
abbrev y_Axes_alongX : MethodName := ⟨"CurvePaths$Axes", "alongX", "(II)J"⟩
abbrev w_Axes_alongX : List Cond := .code y_Axes_alongX b_Axes_alongX 3 (some .long) :: gw
abbrev b_Axes_alongY : ByteArray := prog_3_method_4_code
abbrev y_Axes_alongY : MethodName := ⟨"CurvePaths$Axes", "alongY", "(II)J"⟩
abbrev w_Axes_alongY : List Cond := .code y_Axes_alongY b_Axes_alongY 3 (some .long) :: gw
abbrev b_CP_addSweep : ByteArray := prog_1_method_18_code
abbrev y_CP_addSweep : MethodName := ⟨"CurvePaths", "addSweep", "()I"⟩
abbrev w_CP_addSweep : List Cond := .code y_CP_addSweep b_CP_addSweep 2 (some .int) :: gw
abbrev b_Arc_curveCount : ByteArray := prog_2_method_2_code
abbrev y_Arc_curveCount : MethodName := ⟨"CurvePaths$Arc", "curveCount", "()I"⟩
abbrev w_Arc_curveCount : List Cond := .code y_Arc_curveCount b_Arc_curveCount 1 (some .int) :: gw
abbrev b_Arc_addCurvesTo : ByteArray := prog_2_method_6_code
abbrev y_Arc_addCurvesTo : MethodName := ⟨"CurvePaths$Arc", "addCurvesTo", "(LCurvePaths$Path;)V"⟩
abbrev w_Arc_addCurvesTo : List Cond := .code y_Arc_addCurvesTo b_Arc_addCurvesTo 3 none :: gw
abbrev b_CP_shift : ByteArray := prog_1_method_8_code
abbrev y_CP_shift : MethodName := ⟨"CurvePaths", "shift", "(II)I"⟩
abbrev w_CP_shift : List Cond := .code y_CP_shift b_CP_shift 3 (some .int) :: gw
abbrev b_CP_staysNear : ByteArray := prog_1_method_24_code
abbrev y_CP_staysNear : MethodName := ⟨"CurvePaths", "staysNear", "([III)Z"⟩
abbrev w_CP_staysNear : List Cond := .code y_CP_staysNear b_CP_staysNear 4 (some .boolean) :: gw
abbrev b_CP_addToAll : ByteArray := prog_1_method_25_code
abbrev y_CP_addToAll : MethodName := ⟨"CurvePaths", "addToAll", "([III)V"⟩
abbrev w_CP_addToAll : List Cond := .code y_CP_addToAll b_CP_addToAll 4 none :: gw
abbrev b_CP_reverse : ByteArray := prog_1_method_9_code
abbrev y_CP_reverse : MethodName := ⟨"CurvePaths", "reverse", "()I"⟩
abbrev w_CP_reverse : List Cond := .code y_CP_reverse b_CP_reverse 1 (some .int) :: gw
abbrev b_Path_turnSubpaths : ByteArray := prog_5_method_18_code
abbrev y_Path_turnSubpaths : MethodName := ⟨"CurvePaths$Path", "turnSubpaths", "()V"⟩
abbrev w_Path_turnSubpaths : List Cond := .code y_Path_turnSubpaths b_Path_turnSubpaths 3 none :: gw
abbrev b_Path_turnSubpath : ByteArray := prog_5_method_19_code
abbrev y_Path_turnSubpath : MethodName := ⟨"CurvePaths$Path", "turnSubpath", "(II)V"⟩
abbrev w_Path_turnSubpath : List Cond := .code y_Path_turnSubpath b_Path_turnSubpath 8 none :: gw
abbrev b_Path_pointOf : ByteArray := prog_5_method_8_code
abbrev y_Path_pointOf : MethodName := ⟨"CurvePaths$Path", "pointOf", "(I)I"⟩
abbrev w_Path_pointOf : List Cond := .code y_Path_pointOf b_Path_pointOf 2 (some .int) :: gw
abbrev b_CP_flatten : ByteArray := prog_1_method_10_code
abbrev y_CP_flatten : MethodName := ⟨"CurvePaths", "flatten", "(I)I"⟩
abbrev w_CP_flatten : List Cond := .code y_CP_flatten b_CP_flatten 3 (some .int) :: gw
abbrev b_Path_makeEmpty : ByteArray := prog_5_method_11_code
abbrev y_Path_makeEmpty : MethodName := ⟨"CurvePaths$Path", "makeEmpty", "()V"⟩
abbrev w_Path_makeEmpty : List Cond := .code y_Path_makeEmpty b_Path_makeEmpty 1 none :: gw
abbrev b_CP_addFlattened : ByteArray := prog_1_method_19_code
abbrev y_CP_addFlattened : MethodName := ⟨"CurvePaths", "addFlattened", "(II)Z"⟩
abbrev w_CP_addFlattened : List Cond := .code y_CP_addFlattened b_CP_addFlattened 5 (some .boolean) :: gw
abbrev b_Halving_take : ByteArray := prog_4_method_2_code
abbrev y_Halving_take : MethodName := ⟨"CurvePaths$Halving", "take", "(LCurvePaths$Path;I)V"⟩
abbrev w_Halving_take : List Cond := .code y_Halving_take b_Halving_take 5 none :: gw
abbrev b_Halving_addLinesTo : ByteArray := prog_4_method_3_code
abbrev y_Halving_addLinesTo : MethodName := ⟨"CurvePaths$Halving", "addLinesTo", "(LCurvePaths$Path;I)Z"⟩
abbrev w_Halving_addLinesTo : List Cond := .code y_Halving_addLinesTo b_Halving_addLinesTo 6 (some .boolean) :: gw
abbrev b_Halving_isFlat : ByteArray := prog_4_method_4_code
abbrev y_Halving_isFlat : MethodName := ⟨"CurvePaths$Halving", "isFlat", "(II)Z"⟩
abbrev w_Halving_isFlat : List Cond := .code y_Halving_isFlat b_Halving_isFlat 4 (some .boolean) :: gw
abbrev b_Halving_isFlatAlong : ByteArray := prog_4_method_5_code
abbrev y_Halving_isFlatAlong : MethodName := ⟨"CurvePaths$Halving", "isFlatAlong", "(II)Z"⟩
abbrev w_Halving_isFlatAlong : List Cond := .code y_Halving_isFlatAlong b_Halving_isFlatAlong 3 (some .boolean) :: gw
abbrev b_Halving_isStraight : ByteArray := prog_4_method_6_code
abbrev y_Halving_isStraight : MethodName := ⟨"CurvePaths$Halving", "isStraight", "(II)Z"⟩
abbrev w_Halving_isStraight : List Cond := .code y_Halving_isStraight b_Halving_isStraight 5 (some .boolean) :: gw
abbrev b_Halving_halve : ByteArray := prog_4_method_7_code
abbrev y_Halving_halve : MethodName := ⟨"CurvePaths$Halving", "halve", "(I)V"⟩
abbrev w_Halving_halve : List Cond := .code y_Halving_halve b_Halving_halve 2 none :: gw
abbrev b_Halving_halveAlong : ByteArray := prog_4_method_8_code
abbrev y_Halving_halveAlong : MethodName := ⟨"CurvePaths$Halving", "halveAlong", "(I)V"⟩
abbrev w_Halving_halveAlong : List Cond := .code y_Halving_halveAlong b_Halving_halveAlong 10 none :: gw
abbrev b_Halving_setPiece : ByteArray := prog_4_method_9_code
abbrev y_Halving_setPiece : MethodName := ⟨"CurvePaths$Halving", "setPiece", "(IIIII)V"⟩
abbrev w_Halving_setPiece : List Cond := .code y_Halving_setPiece b_Halving_setPiece 6 none :: gw
abbrev b_CP_clear : ByteArray := prog_1_method_11_code
abbrev y_CP_clear : MethodName := ⟨"CurvePaths", "clear", "()I"⟩
abbrev w_CP_clear : List Cond := .code y_CP_clear b_CP_clear 2 (some .int) :: gw
abbrev b_CP_parts : ByteArray := prog_1_method_12_code
abbrev y_CP_parts : MethodName := ⟨"CurvePaths", "parts", "()I"⟩
abbrev w_CP_parts : List Cond := .code y_CP_parts b_CP_parts 1 (some .int) :: gw
abbrev b_CP_kind : ByteArray := prog_1_method_13_code
abbrev y_CP_kind : MethodName := ⟨"CurvePaths", "kind", "(I)I"⟩
abbrev w_CP_kind : List Cond := .code y_CP_kind b_CP_kind 2 (some .int) :: gw
abbrev b_Path_hasPart : ByteArray := prog_5_method_3_code
abbrev y_Path_hasPart : MethodName := ⟨"CurvePaths$Path", "hasPart", "(I)Z"⟩
abbrev w_Path_hasPart : List Cond := .code y_Path_hasPart b_Path_hasPart 2 (some .boolean) :: gw
abbrev b_CP_place : ByteArray := prog_1_method_14_code
abbrev y_CP_place : MethodName := ⟨"CurvePaths", "place", "(II)I"⟩
abbrev w_CP_place : List Cond := .code y_CP_place b_CP_place 3 (some .int) :: gw
abbrev b_Path_coordinate : ByteArray := prog_5_method_10_code
abbrev y_Path_coordinate : MethodName := ⟨"CurvePaths$Path", "coordinate", "(II)I"⟩
abbrev w_Path_coordinate : List Cond := .code y_Path_coordinate b_Path_coordinate 3 (some .int) :: gw
abbrev b_CP_point : ByteArray := prog_1_method_15_code
abbrev y_CP_point : MethodName := ⟨"CurvePaths", "point", "(I)I"⟩
abbrev w_CP_point : List Cond := .code y_CP_point b_CP_point 2 (some .int) :: gw
abbrev b_Path_latestPoint : ByteArray := prog_5_method_9_code
abbrev y_Path_latestPoint : MethodName := ⟨"CurvePaths$Path", "latestPoint", "()I"⟩
abbrev w_Path_latestPoint : List Cond := .code y_Path_latestPoint b_Path_latestPoint 1 (some .int) :: gw
abbrev b_CP_isPoint : ByteArray := prog_1_method_16_code
abbrev y_CP_isPoint : MethodName := ⟨"CurvePaths", "isPoint", "()Z"⟩
abbrev w_CP_isPoint : List Cond := .code y_CP_isPoint b_CP_isPoint 1 (some .boolean) :: gw
abbrev b_CP_bound : ByteArray := prog_1_method_17_code
abbrev y_CP_bound : MethodName := ⟨"CurvePaths", "bound", "(I)I"⟩
abbrev w_CP_bound : List Cond := .code y_CP_bound b_CP_bound 2 (some .int) :: gw
abbrev b_CP_least : ByteArray := prog_1_method_26_code
abbrev y_CP_least : MethodName := ⟨"CurvePaths", "least", "([II)I"⟩
abbrev w_CP_least : List Cond := .code y_CP_least b_CP_least 4 (some .int) :: gw
abbrev b_CP_greatest : ByteArray := prog_1_method_27_code
abbrev y_CP_greatest : MethodName := ⟨"CurvePaths", "greatest", "([II)I"⟩
abbrev w_CP_greatest : List Cond := .code y_CP_greatest b_CP_greatest 4 (some .int) :: gw
abbrev b_M_init : ByteArray := prog_7_method_1_code
abbrev y_M_init : MethodName := ⟨"CurvePathsModel", "<init>", "()V"⟩
abbrev w_M_init : List Cond := .code y_M_init b_M_init 1 none :: gw
abbrev b_MPath_init : ByteArray := prog_8_method_1_code
abbrev y_MPath_init : MethodName := ⟨"CurvePathsModel$Path", "<init>", "()V"⟩
abbrev w_MPath_init : List Cond := .code y_MPath_init b_MPath_init 1 none :: gw
abbrev b_M_isPoint : ByteArray := prog_7_method_3_code
abbrev y_M_isPoint : MethodName := ⟨"CurvePathsModel", "isPoint", "()Z"⟩
abbrev w_M_isPoint : List Cond := .code y_M_isPoint b_M_isPoint 1 (some .boolean) :: gw
abbrev b_M_point : ByteArray := prog_7_method_4_code
abbrev y_M_point : MethodName := ⟨"CurvePathsModel", "point", "(I)I"⟩
abbrev w_M_point : List Cond := .code y_M_point b_M_point 2 (some .int) :: gw
abbrev b_MPath_get : ByteArray := prog_8_method_4_code
abbrev y_MPath_get : MethodName := ⟨"CurvePathsModel$Path", "get", "(II)I"⟩
abbrev w_MPath_get : List Cond := .code y_MPath_get b_MPath_get 3 (some .int) :: gw
abbrev b_M_move : ByteArray := prog_7_method_5_code
abbrev y_M_move : MethodName := ⟨"CurvePathsModel", "move", "(II)I"⟩
abbrev w_M_move : List Cond := .code y_M_move b_M_move 3 (some .int) :: gw
abbrev b_MPath_copy : ByteArray := prog_8_method_3_code
abbrev y_MPath_copy : MethodName := ⟨"CurvePathsModel$Path", "copy", "(LCurvePathsModel$Path;)V"⟩
abbrev w_MPath_copy : List Cond := .code y_MPath_copy b_MPath_copy 3 none :: gw
abbrev b_MPath_empty : ByteArray := prog_8_method_2_code
abbrev y_MPath_empty : MethodName := ⟨"CurvePathsModel$Path", "empty", "()V"⟩
abbrev w_MPath_empty : List Cond := .code y_MPath_empty b_MPath_empty 1 none :: gw
abbrev b_MPath_begin : ByteArray := prog_8_method_10_code
abbrev y_MPath_begin : MethodName := ⟨"CurvePathsModel$Path", "begin", "(JJ)V"⟩
abbrev w_MPath_begin : List Cond := .code y_MPath_begin b_MPath_begin 5 none :: gw
abbrev b_MPath_addPoint : ByteArray := prog_8_method_7_code
abbrev y_MPath_addPoint : MethodName := ⟨"CurvePathsModel$Path", "addPoint", "(IJJ)V"⟩
abbrev w_MPath_addPoint : List Cond := .code y_MPath_addPoint b_MPath_addPoint 6 none :: gw
abbrev b_MPath_add : ByteArray := prog_8_method_6_code
abbrev y_MPath_add : MethodName := ⟨"CurvePathsModel$Path", "add", "(IJJJJJJ)V"⟩
abbrev w_MPath_add : List Cond := .code y_MPath_add b_MPath_add 14 none :: gw
abbrev b_MPath_isFar : ByteArray := prog_8_method_5_code
abbrev y_MPath_isFar : MethodName := ⟨"CurvePathsModel$Path", "isFar", "(J)Z"⟩
abbrev w_MPath_isFar : List Cond := .code y_MPath_isFar b_MPath_isFar 2 (some .boolean) :: gw
abbrev b_M_settle : ByteArray := prog_7_method_2_code
abbrev y_M_settle : MethodName := ⟨"CurvePathsModel", "settle", "()I"⟩
abbrev w_M_settle : List Cond := .code y_M_settle b_M_settle 2 (some .int) :: gw
abbrev b_M_line : ByteArray := prog_7_method_6_code
abbrev y_M_line : MethodName := ⟨"CurvePathsModel", "line", "(II)I"⟩
abbrev w_M_line : List Cond := .code y_M_line b_M_line 3 (some .int) :: gw
abbrev b_MPath_open : ByteArray := prog_8_method_9_code
abbrev y_MPath_open : MethodName := ⟨"CurvePathsModel$Path", "open", "()V"⟩
abbrev w_MPath_open : List Cond := .code y_MPath_open b_MPath_open 1 none :: gw
abbrev b_M_curve : ByteArray := prog_7_method_7_code
abbrev y_M_curve : MethodName := ⟨"CurvePathsModel", "curve", "(IIIIII)I"⟩
abbrev w_M_curve : List Cond := .code y_M_curve b_M_curve 7 (some .int) :: gw
abbrev b_M_close : ByteArray := prog_7_method_8_code
abbrev y_M_close : MethodName := ⟨"CurvePathsModel", "close", "()I"⟩
abbrev w_M_close : List Cond := .code y_M_close b_M_close 2 (some .int) :: gw
abbrev b_MPath_first : ByteArray := prog_8_method_8_code
abbrev y_MPath_first : MethodName := ⟨"CurvePathsModel$Path", "first", "(I)I"⟩
abbrev w_MPath_first : List Cond := .code y_MPath_first b_MPath_first 3 (some .int) :: gw
abbrev b_M_clear : ByteArray := prog_7_method_9_code
abbrev y_M_clear : MethodName := ⟨"CurvePathsModel", "clear", "()I"⟩
abbrev w_M_clear : List Cond := .code y_M_clear b_M_clear 2 (some .int) :: gw
abbrev b_M_axes : ByteArray := prog_7_method_10_code
abbrev y_M_axes : MethodName := ⟨"CurvePathsModel", "axes", "(IIII)Z"⟩
abbrev w_M_axes : List Cond := .code y_M_axes b_M_axes 5 (some .boolean) :: gw
abbrev b_M_arc : ByteArray := prog_7_method_22_code
abbrev y_M_arc : MethodName := ⟨"CurvePathsModel", "arc", "(IIIII)I"⟩
abbrev w_M_arc : List Cond := .code y_M_arc b_M_arc 8 (some .int) :: gw
abbrev b_M_addArc : ByteArray := prog_7_method_21_code
abbrev y_M_addArc : MethodName := ⟨"CurvePathsModel", "addArc", "(JJJJZ)V"⟩
abbrev w_M_addArc : List Cond := .code y_M_addArc b_M_addArc 19 none :: gw
abbrev b_M_from : ByteArray := prog_7_method_19_code
abbrev y_M_from : MethodName := ⟨"CurvePathsModel", "from", "(JJ)J"⟩
abbrev w_M_from : List Cond := .code y_M_from b_M_from 4 (some .long) :: gw
abbrev b_M_placeOf : ByteArray := prog_7_method_11_code
abbrev y_M_placeOf : MethodName := ⟨"CurvePathsModel", "placeOf", "(J)J"⟩
abbrev w_M_placeOf : List Cond := .code y_M_placeOf b_M_placeOf 2 (some .long) :: gw
abbrev b_M_to : ByteArray := prog_7_method_20_code
abbrev y_M_to : MethodName := ⟨"CurvePathsModel", "to", "(JJ)J"⟩
abbrev w_M_to : List Cond := .code y_M_to b_M_to 4 (some .long) :: gw
abbrev b_M_quarter : ByteArray := prog_7_method_12_code
abbrev y_M_quarter : MethodName := ⟨"CurvePathsModel", "quarter", "(J)V"⟩
abbrev w_M_quarter : List Cond := .code y_M_quarter b_M_quarter 7 none :: gw
abbrev b_M_cut : ByteArray := prog_7_method_15_code
abbrev y_M_cut : MethodName := ⟨"CurvePathsModel", "cut", "(JJ)V"⟩
abbrev w_M_cut : List Cond := .code y_M_cut b_M_cut 6 none :: gw
abbrev b_M_part : ByteArray := prog_7_method_14_code
abbrev y_M_part : MethodName := ⟨"CurvePathsModel", "part", "(J)V"⟩
abbrev w_M_part : List Cond := .code y_M_part b_M_part 5 none :: gw
abbrev b_M_mix : ByteArray := prog_7_method_13_code
abbrev y_M_mix : MethodName := ⟨"CurvePathsModel", "mix", "(JJJ)J"⟩
abbrev w_M_mix : List Cond := .code y_M_mix b_M_mix 6 (some .long) :: gw
abbrev b_M_beginArc : ByteArray := prog_7_method_17_code
abbrev y_M_beginArc : MethodName := ⟨"CurvePathsModel", "beginArc", "(JJJJ)V"⟩
abbrev w_M_beginArc : List Cond := .code y_M_beginArc b_M_beginArc 13 none :: gw
abbrev b_M_around : ByteArray := prog_7_method_16_code
abbrev y_M_around : MethodName := ⟨"CurvePathsModel", "around", "(JJJI)J"⟩
abbrev w_M_around : List Cond := .code y_M_around b_M_around 8 (some .long) :: gw
abbrev b_M_addCurve : ByteArray := prog_7_method_18_code
abbrev y_M_addCurve : MethodName := ⟨"CurvePathsModel", "addCurve", "(JJZ)V"⟩
abbrev w_M_addCurve : List Cond := .code y_M_addCurve b_M_addCurve 9 none :: gw
abbrev b_M_shift : ByteArray := prog_7_method_23_code
abbrev y_M_shift : MethodName := ⟨"CurvePathsModel", "shift", "(II)I"⟩
abbrev w_M_shift : List Cond := .code y_M_shift b_M_shift 5 (some .int) :: gw
abbrev b_M_reverse : ByteArray := prog_7_method_24_code
abbrev y_M_reverse : MethodName := ⟨"CurvePathsModel", "reverse", "()I"⟩
abbrev w_M_reverse : List Cond := .code y_M_reverse b_M_reverse 3 (some .int) :: gw
abbrev b_M_turn : ByteArray := prog_7_method_25_code
abbrev y_M_turn : MethodName := ⟨"CurvePathsModel", "turn", "(II)V"⟩
abbrev w_M_turn : List Cond := .code y_M_turn b_M_turn 7 none :: gw
abbrev b_M_flatten : ByteArray := prog_7_method_28_code
abbrev y_M_flatten : MethodName := ⟨"CurvePathsModel", "flatten", "(I)I"⟩
abbrev w_M_flatten : List Cond := .code y_M_flatten b_M_flatten 3 (some .int) :: gw
abbrev b_M_lay : ByteArray := prog_7_method_27_code
abbrev y_M_lay : MethodName := ⟨"CurvePathsModel", "lay", "(LCurvePathsModel$Path;JJJJJJJJII)V"⟩
abbrev w_M_lay : List Cond := .code y_M_lay b_M_lay 43 none :: gw
abbrev b_M_isStraight : ByteArray := prog_7_method_26_code
abbrev y_M_isStraight : MethodName := ⟨"CurvePathsModel", "isStraight", "(JJJI)Z"⟩
abbrev w_M_isStraight : List Cond := .code y_M_isStraight b_M_isStraight 7 (some .boolean) :: gw
abbrev b_M_parts : ByteArray := prog_7_method_29_code
abbrev y_M_parts : MethodName := ⟨"CurvePathsModel", "parts", "()I"⟩
abbrev w_M_parts : List Cond := .code y_M_parts b_M_parts 1 (some .int) :: gw
abbrev b_M_kind : ByteArray := prog_7_method_30_code
abbrev y_M_kind : MethodName := ⟨"CurvePathsModel", "kind", "(I)I"⟩
abbrev w_M_kind : List Cond := .code y_M_kind b_M_kind 2 (some .int) :: gw
abbrev b_M_place : ByteArray := prog_7_method_31_code
abbrev y_M_place : MethodName := ⟨"CurvePathsModel", "place", "(II)I"⟩
abbrev w_M_place : List Cond := .code y_M_place b_M_place 3 (some .int) :: gw
abbrev b_M_bound : ByteArray := prog_7_method_32_code
abbrev y_M_bound : MethodName := ⟨"CurvePathsModel", "bound", "(I)I"⟩
abbrev w_M_bound : List Cond := .code y_M_bound b_M_bound 6 (some .int) :: gw
end
section
/-! CONTRACTS OF ONE SHAPE: a method with the words w, the arguments av and the cells w0 answers 'rv u' and leaves the cells 'w1 u', for some u with 'ok u'; AM is what is known of the tables and of cells that nobody writes -/
def ctQ {S : Type} (D : va_G) (cl : List vw_C) (ok : S → Prop) (rv : S → Option Value) (w1 : S → va_W) (A : Nat → Prop) : Array Value → State → Outcome → State → Prop := fun _ st oc t => (∃ u : S, oc = .returned (rv u) ∧ ok u ∧ va_P D cl (w1 u) t.heap ∧ va_D A (w1 u)) ∧ va_F A st t
def ctP (D : va_G) (cl : List vw_C) (tys : List (ClassId × FieldType)) (AM : (Nat → Prop) → State → Heap → Prop) (av : List Value) (w0 : va_W) (sz : Nat) : Array Value → State → Prop := va_Pc av (fun U => U.heap.size = sz ∧ va_P D cl w0 U.heap ∧ va_K D cl tys U ∧ va_D (fun _ => True) w0 ∧ AM (va_A w0 sz) U U.heap)
def ctA (AM : (Nat → Prop) → State → Heap → Prop) : Prop := (∀ (A : Nat → Prop) (u U : State) (H : Heap), u.WarmedH U.vm → AM A u H → AM A U H) ∧ (∀ (A : Nat → Prop) (U : State) (H H1 : Heap), (∀ a : Nat, a < H.size → ¬ A a → H1[a]? = H[a]?) → AM A U H → AM A U H1) ∧ (∀ (A B : Nat → Prop) (U : State) (H : Heap), (∀ q, B q → A q) → AM A U H → AM B U H)
def ct (l : Launch) (D : va_G) (cl : List vw_C) (tys : List (ClassId × FieldType)) (AM : (Nat → Prop) → State → Heap → Prop) (y : MethodName) (w : List Cond) (fr lo mc ms : Nat) (av : List Value) (w0 : va_W) {S : Type} (ok : S → Prop) (rv : S → Option Value) (w1 : S → va_W) : Prop := ∀ sz : Nat, Met l y w { frames := fr, cells := mc, slots := ms, locals := lo } (ctP D cl tys AM av w0 sz) (ctQ D cl ok rv w1 (va_A w0 sz)) mc ms (va_A w0 sz)
section CTA
variable {l : Launch} {D : va_G} {cl : List vw_C} {tys : List (ClassId × FieldType)} {AM : (Nat → Prop) → State → Heap → Prop} {y : MethodName} {w w' : List Cond} {fr lo mc ms : Nat} {av : List Value} {w0 : va_W} {S : Type} {ok : S → Prop} {rv : S → Option Value} {w1 : S → va_W}
theorem ct_ofW {cc : ByteArray} {maxL : Nat} {ret : Option FieldType} (hy : plainName y.cls = true) (hw : w = Cond.code y cc maxL ret :: w') (hle : (lg_sl av).length ≤ maxL)
    (body : ∀ (p : Program) (e : Env) (R : Room) (s : State) (m : MethodId) (args : Array Value) (below : List Frame) (meth : Method) (c : Code) (A : Nat → Prop) (Q : State → Prop) (ls : Array Slot), p.tables.exec = Jvm.exec → c.code = cc → meth.sig.returnType = ret → c.maxLocals = maxL → (∀ q ∈ w, q.before args s = true) → s.vm.findClass y.cls = some m.cls → meth.locks = false → meth.name = y.name → R.frames = fr → R.cells = mc → R.slots = ms → R.locals = lo → Q = MQ below (ctQ D cl ok rv w1 A) args s mc ms A → va_K D cl tys s → va_P D cl w0 s.heap → va_D A w0 → va_S A s.heap s.heap [] → (∀ q : Nat, s.heap.size ≤ q → A q) → AM A s s.heap → lv_has ls maxL (lv_args 0 av) →
      W p l e R s m args below meth c s.heap [] 0 0 Q (F0 m 0 ls [])) : ct l D cl tys AM y w fr lo mc ms av w0 ok rv w1 := by
  intro sz
  refine Met.ofW (cc := cc) (maxL := maxL) (ret := ret) hy hw ?_
  intro p e s m args below meth c s₁ B hml hv
  obtain ⟨ha, hsz, hP, hK, hD0, hM⟩ := hv
  subst hsz
  have hl := lv_entry av (n := maxL) hle
  rw [show entryFrame m args maxL = entryFrame m av.toArray maxL from by rw [ha], lg_entry_eq]
  exact body p e _ s m args below meth c _ _ _ B.exec B.bytes B.returns hml (atoms_spec (ws := w) B.pre) (findClass_of_methodNamed B.named) B.notSynchronized (name_of_methodNamed B.named B.method).1 rfl rfl rfl rfl rfl hK hP hD0.self va_S.rf (fun q h => Or.inr h) hM hl
end CTA
theorem ct_sub {ws ws' : va_W} (is : List Nat) (h : is.map (fun i => ws[i]?) = ws'.map some) : is.filterMap (fun i => ws[i]?) = ws' := by
  induction is generalizing ws' with
  | nil => cases ws' with
    | nil => rfl
    | cons a r => cases h
  | cons i is ih => cases ws' with
    | nil => cases h
    | cons a r =>
      simp only [List.map_cons, List.cons.injEq] at h
      rw [List.filterMap_cons, h.1, ih h.2]
section CTB
variable {p : Program} {l : Launch} {e : Env} {R : Room} {s : State} {m : MethodId} {args : Array Value} {below : List Frame} {meth : Method} {c : Code} {H : Heap} {locs : List Loc} {cells slots : Nat} {Q : State → Prop}
variable {cc : ByteArray} {pc : Nat} {ls : Array Slot} {rest st : List Value} {D : va_G} {cl : List vw_C} {A : Nat → Prop} {tys : List (ClassId × FieldType)} {ws : va_W}
variable {AM : (Nat → Prop) → State → Heap → Prop} {S : Type} {ok : S → Prop} {rv : S → Option Value} {w1 : S → va_W} {mc ms : Nat}
/-- the end of a method: what it answers and the cells that it leaves, picked out of the world -/
theorem ct_reti {v : Int32} (hQ : Q = MQ below (ctQ D cl ok rv w1 A) args s mc ms A) (hx : p.tables.exec = Jvm.exec) (hb : c.code = cc) (hr : meth.sig.returnType = some .int) (hlocks : meth.locks = false) (hP : va_P D cl ws H) (hD : va_D A ws) (hS : va_S A s.heap H locs) (u : S) (w9 : va_W) (is : List Nat) (hv : rv u = some (.int v)) (hok : ok u) (he : w1 u = w9) (hi : is.map (fun i => ws[i]?) = w9.map some) (hn : va_nd is = true) (hc : cells ≤ mc) (hs : slots ≤ ms) (hdg : decode cc pc = .ok (.ireturn, 1)) : W p l e R s m args below meth c H locs cells slots Q (F0 m pc ls [.int v]) := by
  subst hQ
  exact W.widen hc hs (W.iret (v := v) hx hb hr (fun _ ht _ => ⟨⟨u, by rw [hv], hok, by rw [ht, he]; exact hP.sub is (ct_sub is hi), by rw [he]; exact hD.sub is hn hi⟩, hS.F ht⟩) hS.2.2 hdg hlocks)
theorem ct_retz {v : Int32} (hQ : Q = MQ below (ctQ D cl ok rv w1 A) args s mc ms A) (hx : p.tables.exec = Jvm.exec) (hb : c.code = cc) (hr : meth.sig.returnType = some .boolean) (hlocks : meth.locks = false) (hP : va_P D cl ws H) (hD : va_D A ws) (hS : va_S A s.heap H locs) (u : S) (w9 : va_W) (is : List Nat) (hv : rv u = some (.int v)) (hok : ok u) (he : w1 u = w9) (hi : is.map (fun i => ws[i]?) = w9.map some) (hn : va_nd is = true) (hz : narrow .boolean (.int v) = .int v) (hc : cells ≤ mc) (hs : slots ≤ ms) (hdg : decode cc pc = .ok (.ireturn, 1)) : W p l e R s m args below meth c H locs cells slots Q (F0 m pc ls [.int v]) := by
  subst hQ
  exact W.widen hc hs (W.zret (v := v) hx hb hr hz (fun _ ht _ => ⟨⟨u, by rw [hv], hok, by rw [ht, he]; exact hP.sub is (ct_sub is hi), by rw [he]; exact hD.sub is hn hi⟩, hS.F ht⟩) hS.2.2 hdg hlocks)
theorem ct_retl {v : Int64} (hQ : Q = MQ below (ctQ D cl ok rv w1 A) args s mc ms A) (hx : p.tables.exec = Jvm.exec) (hb : c.code = cc) (hr : meth.sig.returnType = some .long) (hlocks : meth.locks = false) (hP : va_P D cl ws H) (hD : va_D A ws) (hS : va_S A s.heap H locs) (u : S) (w9 : va_W) (is : List Nat) (hv : rv u = some (.long v)) (hok : ok u) (he : w1 u = w9) (hi : is.map (fun i => ws[i]?) = w9.map some) (hn : va_nd is = true) (hc : cells ≤ mc) (hs : slots ≤ ms) (hdg : decode cc pc = .ok (.lreturn, 1)) : W p l e R s m args below meth c H locs cells slots Q (F0 m pc ls [.long v]) := by
  subst hQ
  exact W.widen hc hs (W.lret (v := v) hx hb hr (fun _ ht _ => ⟨⟨u, by rw [hv], hok, by rw [ht, he]; exact hP.sub is (ct_sub is hi), by rw [he]; exact hD.sub is hn hi⟩, hS.F ht⟩) hS.2.2 hdg hlocks)
theorem ct_retv (hQ : Q = MQ below (ctQ D cl ok rv w1 A) args s mc ms A) (hx : p.tables.exec = Jvm.exec) (hb : c.code = cc) (hr : meth.sig.returnType = none) (hlocks : meth.locks = false) (hP : va_P D cl ws H) (hD : va_D A ws) (hS : va_S A s.heap H locs) (u : S) (w9 : va_W) (is : List Nat) (hv : rv u = none) (hok : ok u) (he : w1 u = w9) (hi : is.map (fun i => ws[i]?) = w9.map some) (hn : va_nd is = true) (hc : cells ≤ mc) (hs : slots ≤ ms) (hdg : decode cc pc = .ok (.return_, 1)) : W p l e R s m args below meth c H locs cells slots Q (F0 m pc ls []) := by
  subst hQ
  exact W.widen hc hs (W.vret hx hb hr (fun _ ht _ => ⟨⟨u, by rw [hv], hok, by rw [ht, he]; exact hP.sub is (ct_sub is hi), by rw [he]; exact hD.sub is hn hi⟩, hS.F ht⟩) hS.2.2 hdg hlocks)
theorem ct_reta {q : Nat} {rt : FieldType} (hQ : Q = MQ below (ctQ D cl ok rv w1 A) args s mc ms A) (hx : p.tables.exec = Jvm.exec) (hb : c.code = cc) (hr : meth.sig.returnType = some rt) (hrt : (∃ n, rt = .object n) ∨ ∃ t, rt = .array t) (hlocks : meth.locks = false) (hP : va_P D cl ws H) (hD : va_D A ws) (hS : va_S A s.heap H locs) (u : S) (w9 : va_W) (is : List Nat) (hv : rv u = some (.ref q)) (hok : ok u) (he : w1 u = w9) (hi : is.map (fun i => ws[i]?) = w9.map some) (hn : va_nd is = true) (hc : cells ≤ mc) (hs : slots ≤ ms) (hdg : decode cc pc = .ok (.areturn, 1)) : W p l e R s m args below meth c H locs cells slots Q (F0 m pc ls [.ref q]) := by
  subst hQ
  exact W.widen hc hs (W.aret (v := .ref q) hx hb hr hrt (Or.inr ⟨q, rfl⟩) (fun _ ht _ => ⟨⟨u, by rw [hv], hok, by rw [ht, he]; exact hP.sub is (ct_sub is hi), by rw [he]; exact hD.sub is hn hi⟩, hS.F ht⟩) hS.2.2 hdg hlocks)
theorem ctP_blind {av : List Value} {w0 : va_W} {sz : Nat} (hAM : ctA AM) : FrameBlind (ctP D cl tys AM av w0 sz) := by
  intro a U g mk q
  obtain ⟨q0, q1, qP, qK, qD, qM⟩ := q
  exact ⟨q0, q1, qP, va_K.moved (u := U) (U := U.calling g mk a) (Vm.Alike.refl U.vm) qK, qD, hAM.1 _ U (U.calling g mk a) _ (State.WarmedH.refl U) qM⟩
/-- what a caller has to show: the callee's cells stand in its world -/
theorem ctP_at {av : List Value} {w0 : va_W} (hAM : ctA AM) (hK : va_K D cl tys s) (hP : va_P D cl ws H) (hD : va_D A ws) (hS : va_S A s.heap H locs) (hA : ∀ q : Nat, s.heap.size ≤ q → A q) (hM : AM A s s.heap) (isC : List Nat) (hC : isC.map (fun i => ws[i]?) = w0.map some) (hnC : va_nd isC = true) : ∀ U : State, U.heap = H → s.WarmedH U.vm → ctP D cl tys AM av w0 H.size av.toArray U := by
  intro U hU hW
  have hF := va_free hD hS hA isC hC
  refine ⟨rfl, by rw [hU], by rw [hU]; exact hP.sub isC (ct_sub isC hC), va_K.moved hW.alike hK, (hD.sub isC hnC hC).weaken (fun _ _ _ _ => trivial), ?_⟩
  rw [hU]
  exact hAM.2.2 A _ U H hF (hAM.2.1 A U s.heap H (fun a h1 h2 => hS.2.1 a h1 h2) (hAM.1 A s U s.heap hW hM))
/-- behind a call: the answer, and the caller's world with the callee's new cells at its end -/
theorem ct_back {w0 wr : va_W} {a : Array Value} (hP : va_P D cl ws H) (hD : va_D A ws) (hS : va_S A s.heap H locs) (hA : ∀ q : Nat, s.heap.size ≤ q → A q) (isC isR : List Nat) (hC : isC.map (fun i => ws[i]?) = w0.map some) (hR : isR.map (fun i => ws[i]?) = wr.map some) (hnR : va_nd isR = true) (hdis : ∀ i ∈ isR, i ∉ isC)
    (hr : va_Run p l e R s m args below meth c H locs cells slots mc ms (F0 m pc ls st) rest (ctQ D cl ok rv w1 (va_A w0 H.size) a) (va_A w0 H.size))
    (kk : ∀ (u : S) (H1 : Heap) (locs1 : List Loc), ok u → va_P D cl (wr ++ w1 u) H1 → va_D A (wr ++ w1 u) → va_S A s.heap H1 locs1 → W p l e R s m args below meth c H1 locs1 (cells + mc) (slots + ms) Q (F0 m (pc + 3) ls ((rv u).toList ++ rest))) : W p l e R s m args below meth c H locs cells slots Q (F0 m pc ls st) := by
  have hF := va_free hD hS hA isC hC
  intro T hT X
  obtain ⟨v, st₀, t, T', L, h0, X', hL, e1, e2, ⟨⟨u, hv, hp, hb, hd⟩, hz, hk⟩, stp⟩ := hr T hT X
  cases hv
  rw [h0] at hz hk
  obtain ⟨j1, j2⟩ := va_join (H1 := t.heap) (w1 := w1 u) hP hD isC isR hC hR hnR hdis hk hF hb hd
  obtain ⟨t2, a1, b1⟩ := kk u T'.heap (locs ++ L) hp (by rw [e1]; exact j1) j2
    ⟨Nat.le_trans hS.1 (by rw [e1]; exact hz), fun q h1 h2 => by rw [e1, hk q (Nat.lt_of_lt_of_le h1 hS.1) (fun z => h2 (hF q z))]; exact hS.2.1 q h1 h2, fun q hq => by
      rcases List.mem_append.mp hq with h | h
      · exact hS.2.2 q h
      · exact hF _ (hL q h)⟩ T' rfl X'
  exact ⟨t2, stp t2 a1, b1⟩
variable {y : MethodName} {w w' : List Cond} {fr lo : Nat} {av As : List Value} {w0 : va_W} {wr : va_W} {bytes : ByteArray} {maxL nL n index ci q0 N b : Nat} {ret : Option FieldType} {Ts : List Cond} {own C host : String} {T : u_T} {fs : List Value}
/-- invokevirtual -/
theorem ct_callV (hM : ct l D cl tys AM y w fr lo mc ms (.ref b :: As) w0 ok rv w1) (hx : p.tables.exec = Jvm.exec) (hb : c.code = cc) (hml : c.maxLocals = nL) (hown : s.vm.findClass own = some m.cls) (hts : ∀ q ∈ Ts, q.before args s = true) (hAM : ctA AM) (hK : va_K D cl tys s) (hP : va_P D cl ws H) (hD : va_D A ws) (hS : va_S A s.heap H locs) (hA : ∀ q : Nat, s.heap.size ≤ q → A q) (hMM : AM A s s.heap)
    (hG : GoodIn Ts (wsV own index C y w)) (hw : w = Cond.code y bytes maxL ret :: w') (hd : y.cls = C ∧ y.cls ≠ "java/lang/invoke/MethodHandle" ∧ y.cls ≠ "java/lang/invoke/VarHandle" ∧ (parseMethodDescriptor y.desc).map (fun d => d.parameters.length) = some n) (hR : fr + 1 ≤ R.frames ∧ 8 + (maxL + 11) + lo ≤ R.locals)
    (isC isR : List Nat) (hC : isC.map (fun i => ws[i]?) = w0.map some) (hRr : isR.map (fun i => ws[i]?) = wr.map some) (hnC : va_nd isC = true) (hnR : va_nd isR = true) (hdis : ∀ i ∈ isR, i ∉ isC) (hrc : cl[ci]? = some (C, T, N)) (hre : ws[q0]? = some (b, .inr (ci, fs))) (hn : As.length = n) (hsize : ls.size = nL) (hst : st = As.reverse ++ .ref b :: rest) (hW : (rest.map fun v => v.category).sum ≤ 8) (hdg : decode cc pc = .ok (.invokevirtual index, 3)) (hf : cells + mc ≤ R.cells ∧ slots + ms ≤ R.slots)
    (kk : ∀ (u : S) (H1 : Heap) (locs1 : List Loc), ok u → va_P D cl (wr ++ w1 u) H1 → va_D A (wr ++ w1 u) → va_S A s.heap H1 locs1 → W p l e R s m args below meth c H1 locs1 (cells + mc) (slots + ms) Q (F0 m (pc + 3) ls ((rv u).toList ++ rest))) : W p l e R s m args below meth c H locs cells slots Q (F0 m pc ls st) :=
  ct_back hP hD hS hA isC isR hC hRr hnR hdis (va_runV (g := F0 m pc ls st) (As := As) (rest := rest) ⟨hx, hb, hml, hown, hts⟩ (hM H.size) (cwV n hts hG hw rfl rfl hd hR) ⟨ctP_blind hAM, va_recv hK hP hrc hre, ctP_at hAM hK hP hD hS hA hMM isC hC hnC⟩ rfl hn hsize hst (lv_room hW) hdg hf) kk
/-- invokestatic of the own class -/
theorem ct_callS (hM : ct l D cl tys AM y w fr lo mc ms av w0 ok rv w1) (hx : p.tables.exec = Jvm.exec) (hb : c.code = cc) (hml : c.maxLocals = nL) (hown : s.vm.findClass own = some m.cls) (hts : ∀ q ∈ Ts, q.before args s = true) (hAM : ctA AM) (hK : va_K D cl tys s) (hP : va_P D cl ws H) (hD : va_D A ws) (hS : va_S A s.heap H locs) (hA : ∀ q : Nat, s.heap.size ≤ q → A q) (hMM : AM A s s.heap)
    (hG : GoodIn Ts (va_wsS own index y w)) (hw : w = Cond.code y bytes maxL ret :: w') (hd : y.cls ≠ "java/lang/invoke/MethodHandle" ∧ y.cls ≠ "java/lang/invoke/VarHandle" ∧ (parseMethodDescriptor y.desc).map (fun d => d.parameters.length) = some n) (hR : fr + 1 ≤ R.frames ∧ 8 + (maxL + 11) + lo ≤ R.locals)
    (isC isR : List Nat) (hC : isC.map (fun i => ws[i]?) = w0.map some) (hRr : isR.map (fun i => ws[i]?) = wr.map some) (hnC : va_nd isC = true) (hnR : va_nd isR = true) (hdis : ∀ i ∈ isR, i ∉ isC) (hn : av.length = n) (hsize : ls.size = nL) (hst : st = av.reverse ++ rest) (hW : (rest.map fun v => v.category).sum ≤ 8) (hdg : decode cc pc = .ok (.invokestatic index, 3)) (hf : cells + mc ≤ R.cells ∧ slots + ms ≤ R.slots)
    (kk : ∀ (u : S) (H1 : Heap) (locs1 : List Loc), ok u → va_P D cl (wr ++ w1 u) H1 → va_D A (wr ++ w1 u) → va_S A s.heap H1 locs1 → W p l e R s m args below meth c H1 locs1 (cells + mc) (slots + ms) Q (F0 m (pc + 3) ls ((rv u).toList ++ rest))) : W p l e R s m args below meth c H locs cells slots Q (F0 m pc ls st) :=
  ct_back hP hD hS hA isC isR hC hRr hnR hdis (va_runS (g := F0 m pc ls st) (As := av) (rest := rest) ⟨hx, hb, hml, hown, hts⟩ (hM H.size) (va_cwS n hts hG hw rfl rfl hd hR) ⟨ctP_blind hAM, ctP_at hAM hK hP hD hS hA hMM isC hC hnC⟩ rfl hn hsize hst (lv_room hW) hdg hf) kk
/-- invokespecial <init> -/
theorem ct_callI (hM : ct l D cl tys AM y w fr lo mc ms (.ref b :: As) w0 ok rv w1) (hx : p.tables.exec = Jvm.exec) (hb : c.code = cc) (hml : c.maxLocals = nL) (hown : s.vm.findClass own = some m.cls) (hts : ∀ q ∈ Ts, q.before args s = true) (hAM : ctA AM) (hK : va_K D cl tys s) (hP : va_P D cl ws H) (hD : va_D A ws) (hS : va_S A s.heap H locs) (hA : ∀ q : Nat, s.heap.size ≤ q → A q) (hMM : AM A s s.heap)
    (hG : GoodIn Ts w) (hw : w = Cond.code y bytes maxL none :: w') (hini : (Cond.initialized y.cls).before args s = true) (hl : (Cond.methodLink own index y).before args s = true) (hin : (Cond.instanceMethod y).before args s = true) (hy1 : y.name = "<init>") (hd : y.cls ≠ "java/lang/invoke/MethodHandle" ∧ y.cls ≠ "java/lang/invoke/VarHandle" ∧ (parseMethodDescriptor y.desc).map (fun d => d.parameters.length) = some n) (hR : fr + 1 ≤ R.frames ∧ 8 + (maxL + 11) + lo ≤ R.locals)
    (isC isR : List Nat) (hC : isC.map (fun i => ws[i]?) = w0.map some) (hRr : isR.map (fun i => ws[i]?) = wr.map some) (hnC : va_nd isC = true) (hnR : va_nd isR = true) (hdis : ∀ i ∈ isR, i ∉ isC) (hn : As.length = n) (hsize : ls.size = nL) (hst : st = As.reverse ++ .ref b :: rest) (hW : (rest.map fun v => v.category).sum ≤ 8) (hdg : decode cc pc = .ok (.invokespecial index, 3)) (hf : cells + mc ≤ R.cells ∧ slots + ms ≤ R.slots)
    (kk : ∀ (u : S) (H1 : Heap) (locs1 : List Loc), ok u → va_P D cl (wr ++ w1 u) H1 → va_D A (wr ++ w1 u) → va_S A s.heap H1 locs1 → W p l e R s m args below meth c H1 locs1 (cells + mc) (slots + ms) Q (F0 m (pc + 3) ls ((rv u).toList ++ rest))) : W p l e R s m args below meth c H locs cells slots Q (F0 m pc ls st) :=
  ct_back hP hD hS hA isC isR hC hRr hnR hdis (va_runI (g := F0 m pc ls st) (As := As) (rest := rest) ⟨hx, hb, hml, hown, hts⟩ (hM H.size) (cwI n hts hG hw rfl rfl hini hl hin hy1 hd hR) ⟨ctP_blind hAM, ctP_at hAM hK hP hD hS hA hMM isC hC hnC⟩ rfl hn hsize hst (lv_room hW) hdg hf) kk
/-- invokestatic of a nest mate's private method -/
theorem ct_callSN (hM : ct l D cl tys AM y w fr lo mc ms av w0 ok rv w1) (hx : p.tables.exec = Jvm.exec) (hb : c.code = cc) (hml : c.maxLocals = nL) (hown : s.vm.findClass own = some m.cls) (hts : ∀ q ∈ Ts, q.before args s = true) (hAM : ctA AM) (hK : va_K D cl tys s) (hP : va_P D cl ws H) (hD : va_D A ws) (hS : va_S A s.heap H locs) (hA : ∀ q : Nat, s.heap.size ≤ q → A q) (hMM : AM A s s.heap)
    (hG : GoodIn Ts w) (hw : w = Cond.code y bytes maxL ret :: w') (hl : va_Nw (.methodLinkNest own index y host) s) (hini : (Cond.initialized y.cls).before args s = true) (hstat : (Cond.static y).before args s = true) (hd : y.cls ≠ "java/lang/invoke/MethodHandle" ∧ y.cls ≠ "java/lang/invoke/VarHandle" ∧ (parseMethodDescriptor y.desc).map (fun d => d.parameters.length) = some n) (hR : fr + 1 ≤ R.frames ∧ 8 + (maxL + 11) + lo ≤ R.locals)
    (isC isR : List Nat) (hC : isC.map (fun i => ws[i]?) = w0.map some) (hRr : isR.map (fun i => ws[i]?) = wr.map some) (hnC : va_nd isC = true) (hnR : va_nd isR = true) (hdis : ∀ i ∈ isR, i ∉ isC) (hn : av.length = n) (hsize : ls.size = nL) (hst : st = av.reverse ++ rest) (hW : (rest.map fun v => v.category).sum ≤ 8) (hdg : decode cc pc = .ok (.invokestatic index, 3)) (hf : cells + mc ≤ R.cells ∧ slots + ms ≤ R.slots)
    (kk : ∀ (u : S) (H1 : Heap) (locs1 : List Loc), ok u → va_P D cl (wr ++ w1 u) H1 → va_D A (wr ++ w1 u) → va_S A s.heap H1 locs1 → W p l e R s m args below meth c H1 locs1 (cells + mc) (slots + ms) Q (F0 m (pc + 3) ls ((rv u).toList ++ rest))) : W p l e R s m args below meth c H locs cells slots Q (F0 m pc ls st) :=
  ct_back hP hD hS hA isC isR hC hRr hnR hdis (va_runSN (g := F0 m pc ls st) (As := av) (rest := rest) ⟨hx, hb, hml, hown, hts⟩ (hM H.size) ⟨va_cnB n hts hG hw rfl rfl hl hini hd hR, hstat, trivial⟩ ⟨ctP_blind hAM, ctP_at hAM hK hP hD hS hA hMM isC hC hnC⟩ rfl hn hsize hst (lv_room hW) hdg hf) kk
/-- invokespecial of a nest mate's private <init> -/
theorem ct_callIN (hM : ct l D cl tys AM y w fr lo mc ms (.ref b :: As) w0 ok rv w1) (hx : p.tables.exec = Jvm.exec) (hb : c.code = cc) (hml : c.maxLocals = nL) (hown : s.vm.findClass own = some m.cls) (hts : ∀ q ∈ Ts, q.before args s = true) (hAM : ctA AM) (hK : va_K D cl tys s) (hP : va_P D cl ws H) (hD : va_D A ws) (hS : va_S A s.heap H locs) (hA : ∀ q : Nat, s.heap.size ≤ q → A q) (hMM : AM A s s.heap)
    (hG : GoodIn Ts w) (hw : w = Cond.code y bytes maxL none :: w') (hl : va_Nw (.methodLinkNest own index y host) s) (hini : (Cond.initialized y.cls).before args s = true) (hin : (Cond.instanceMethod y).before args s = true) (hy1 : y.name = "<init>") (hd : y.cls ≠ "java/lang/invoke/MethodHandle" ∧ y.cls ≠ "java/lang/invoke/VarHandle" ∧ (parseMethodDescriptor y.desc).map (fun d => d.parameters.length) = some n) (hR : fr + 1 ≤ R.frames ∧ 8 + (maxL + 11) + lo ≤ R.locals)
    (isC isR : List Nat) (hC : isC.map (fun i => ws[i]?) = w0.map some) (hRr : isR.map (fun i => ws[i]?) = wr.map some) (hnC : va_nd isC = true) (hnR : va_nd isR = true) (hdis : ∀ i ∈ isR, i ∉ isC) (hn : As.length = n) (hsize : ls.size = nL) (hst : st = As.reverse ++ .ref b :: rest) (hW : (rest.map fun v => v.category).sum ≤ 8) (hdg : decode cc pc = .ok (.invokespecial index, 3)) (hf : cells + mc ≤ R.cells ∧ slots + ms ≤ R.slots)
    (kk : ∀ (u : S) (H1 : Heap) (locs1 : List Loc), ok u → va_P D cl (wr ++ w1 u) H1 → va_D A (wr ++ w1 u) → va_S A s.heap H1 locs1 → W p l e R s m args below meth c H1 locs1 (cells + mc) (slots + ms) Q (F0 m (pc + 3) ls ((rv u).toList ++ rest))) : W p l e R s m args below meth c H locs cells slots Q (F0 m pc ls st) :=
  ct_back hP hD hS hA isC isR hC hRr hnR hdis (va_runIN (g := F0 m pc ls st) (As := As) (rest := rest) ⟨hx, hb, hml, hown, hts⟩ (hM H.size) ⟨va_cnB n hts hG hw rfl rfl hl hini hd hR, hy1, hin⟩ ⟨ctP_blind hAM, ctP_at hAM hK hP hD hS hA hMM isC hC hnC⟩ rfl hn hsize hst (lv_room hW) hdg hf) kk
end CTB
end
section
/-! rows of the kit with indices and counters as natural numbers -/
section HP
variable {p : Program} {l : Launch} {e : Env} {R : Room} {s : State} {m : MethodId} {args : Array Value} {below : List Frame} {meth : Method} {c : Code} {H : Heap} {locs : List Loc} {cells slots : Nat} {Q : State → Prop}
variable {cc : ByteArray} {pc : Nat} {ls : Array Slot} {rest : List Value} {D : va_G} {cl : List vw_C} {A : Nat → Prop} {a : Nat} {tys : List (ClassId × FieldType)} {ws : va_W} {H0 : Heap}
theorem tp_i {x : Int32} (y : Int32) (h : x = y) (k : W p l e R s m args below meth c H locs cells slots Q (F0 m pc ls (.int y :: rest))) : W p l e R s m args below meth c H locs cells slots Q (F0 m pc ls (.int x :: rest)) := by subst h; exact k
theorem tp_l {x : Int64} (y : Int64) (h : x = y) (k : W p l e R s m args below meth c H locs cells slots Q (F0 m pc ls (.long y :: rest))) : W p l e R s m args below meth c H locs cells slots Q (F0 m pc ls (.long x :: rest)) := by subst h; exact k
theorem ld_i (hexec : p.tables.exec = Jvm.exec) (hb : c.code = cc) (hK : va_K D cl tys s) (hP : va_P D cl ws H) (q0 t0 : Nat) {cA : ClassId} {n : Nat} {f : Nat → Int32} (ha : ws[q0]? = some (a, .inl (cA, n, .inl f))) (ht : tys[t0]? = some (cA, .int)) (k : Nat) (hk : k < n) (hn : n < 2 ^ 31) (hdg : decode cc pc = .ok (.iaload, 1))
    (kk : W p l e R s m args below meth c H locs cells slots Q (F0 m (pc + 1) ls (.int (f k) :: rest))) : W p l e R s m args below meth c H locs cells slots Q (F0 m pc ls (.int (nI k) :: .ref a :: rest)) :=
  va_iald hexec hb hK hP q0 t0 ha ht (vp_in_nI hk hn) hdg (by rw [nI_clamp (Nat.lt_trans hk hn)]; exact kk)
theorem st_i (hexec : p.tables.exec = Jvm.exec) (hb : c.code = cc) (hK : va_K D cl tys s) (hP : va_P D cl ws H) (hD : va_D A ws) (hS : va_S A H0 H locs) (q0 t0 : Nat) {cA : ClassId} {n : Nat} {f : Nat → Int32} (ha : ws[q0]? = some (a, .inl (cA, n, .inl f))) (ht : tys[t0]? = some (cA, .int)) (k : Nat) {x : Int32} (hk : k < n) (hn : n < 2 ^ 31) (hdg : decode cc pc = .ok (.iastore, 1))
    (kk : ∀ (H1 : Heap) (locs1 : List Loc), va_P D cl (ws.set q0 (a, .inl (cA, n, .inl (upd f k x)))) H1 → va_D A (ws.set q0 (a, .inl (cA, n, .inl (upd f k x)))) → va_S A H0 H1 locs1 → W p l e R s m args below meth c H1 locs1 cells slots Q (F0 m (pc + 1) ls rest)) : W p l e R s m args below meth c H locs cells slots Q (F0 m pc ls (.int x :: .int (nI k) :: .ref a :: rest)) :=
  va_iast hexec hb hK hP hD hS q0 t0 ha ht (vp_in_nI hk hn) hdg (by rw [nI_clamp (Nat.lt_trans hk hn)]; exact kk)
variable {a1 b1 tgt : Nat} {off : Int}
theorem bn_lt (hexec : p.tables.exec = Jvm.exec) (hb : c.code = cc) (ha : a1 < 2 ^ 31) (hbb : b1 < 2 ^ 31) (hdg : decode cc pc = .ok (.if_icmp .lt off, 3)) (ht : (pc : Int) + off = (tgt : Int)) (kt : a1 < b1 → W p l e R s m args below meth c H locs cells slots Q (F0 m tgt ls rest)) (kf : b1 ≤ a1 → W p l e R s m args below meth c H locs cells slots Q (F0 m (pc + 3) ls rest)) : W p l e R s m args below meth c H locs cells slots Q (F0 m pc ls (.int (nI b1) :: .int (nI a1) :: rest)) :=
  lv_icmp_lt hexec hb hdg ht (fun h => kt ((nI_ltI ha hbb).mp h)) (fun h => kf (Nat.not_lt.mp (fun q => h ((nI_ltI ha hbb).mpr q))))
theorem bn_ge (hexec : p.tables.exec = Jvm.exec) (hb : c.code = cc) (ha : a1 < 2 ^ 31) (hbb : b1 < 2 ^ 31) (hdg : decode cc pc = .ok (.if_icmp .ge off, 3)) (ht : (pc : Int) + off = (tgt : Int)) (kt : b1 ≤ a1 → W p l e R s m args below meth c H locs cells slots Q (F0 m tgt ls rest)) (kf : a1 < b1 → W p l e R s m args below meth c H locs cells slots Q (F0 m (pc + 3) ls rest)) : W p l e R s m args below meth c H locs cells slots Q (F0 m pc ls (.int (nI b1) :: .int (nI a1) :: rest)) :=
  lv_icmp_ge hexec hb hdg ht (fun h => kt ((nI_leI hbb ha).mp h)) (fun h => kf (Nat.not_le.mp (fun q => h ((nI_leI hbb ha).mpr q))))
theorem bn_gt (hexec : p.tables.exec = Jvm.exec) (hb : c.code = cc) (ha : a1 < 2 ^ 31) (hbb : b1 < 2 ^ 31) (hdg : decode cc pc = .ok (.if_icmp .gt off, 3)) (ht : (pc : Int) + off = (tgt : Int)) (kt : b1 < a1 → W p l e R s m args below meth c H locs cells slots Q (F0 m tgt ls rest)) (kf : a1 ≤ b1 → W p l e R s m args below meth c H locs cells slots Q (F0 m (pc + 3) ls rest)) : W p l e R s m args below meth c H locs cells slots Q (F0 m pc ls (.int (nI b1) :: .int (nI a1) :: rest)) :=
  lv_icmp_gt hexec hb hdg ht (fun h => kt ((nI_ltI hbb ha).mp h)) (fun h => kf (Nat.not_lt.mp (fun q => h ((nI_ltI hbb ha).mpr q))))
theorem bn_le (hexec : p.tables.exec = Jvm.exec) (hb : c.code = cc) (ha : a1 < 2 ^ 31) (hbb : b1 < 2 ^ 31) (hdg : decode cc pc = .ok (.if_icmp .le off, 3)) (ht : (pc : Int) + off = (tgt : Int)) (kt : a1 ≤ b1 → W p l e R s m args below meth c H locs cells slots Q (F0 m tgt ls rest)) (kf : b1 < a1 → W p l e R s m args below meth c H locs cells slots Q (F0 m (pc + 3) ls rest)) : W p l e R s m args below meth c H locs cells slots Q (F0 m pc ls (.int (nI b1) :: .int (nI a1) :: rest)) :=
  lv_icmp_le hexec hb hdg ht (fun h => kt ((nI_leI ha hbb).mp h)) (fun h => kf (Nat.not_le.mp (fun q => h ((nI_leI ha hbb).mpr q))))
theorem bn_eq (hexec : p.tables.exec = Jvm.exec) (hb : c.code = cc) (ha : a1 < 2 ^ 31) (hbb : b1 < 2 ^ 31) (hdg : decode cc pc = .ok (.if_icmp .eq off, 3)) (ht : (pc : Int) + off = (tgt : Int)) (kt : a1 = b1 → W p l e R s m args below meth c H locs cells slots Q (F0 m tgt ls rest)) (kf : ¬ a1 = b1 → W p l e R s m args below meth c H locs cells slots Q (F0 m (pc + 3) ls rest)) : W p l e R s m args below meth c H locs cells slots Q (F0 m pc ls (.int (nI b1) :: .int (nI a1) :: rest)) :=
  lv_icmp_eq hexec hb hdg ht (fun h => kt ((nI_eq ha hbb).mp h)) (fun h => kf (fun q => h ((nI_eq ha hbb).mpr q)))
theorem bn_ne (hexec : p.tables.exec = Jvm.exec) (hb : c.code = cc) (ha : a1 < 2 ^ 31) (hbb : b1 < 2 ^ 31) (hdg : decode cc pc = .ok (.if_icmp .ne off, 3)) (ht : (pc : Int) + off = (tgt : Int)) (kt : ¬ a1 = b1 → W p l e R s m args below meth c H locs cells slots Q (F0 m tgt ls rest)) (kf : a1 = b1 → W p l e R s m args below meth c H locs cells slots Q (F0 m (pc + 3) ls rest)) : W p l e R s m args below meth c H locs cells slots Q (F0 m pc ls (.int (nI b1) :: .int (nI a1) :: rest)) :=
  lv_icmp_ne hexec hb hdg ht (fun h => kt (fun q => h ((nI_eq ha hbb).mpr q))) (fun h => kf ((nI_eq ha hbb).mp h))
theorem bz_eq (hexec : p.tables.exec = Jvm.exec) (hb : c.code = cc) (ha : a1 < 2 ^ 31) (hdg : decode cc pc = .ok (.ifCond .eq off, 3)) (ht : (pc : Int) + off = (tgt : Int)) (kt : a1 = 0 → W p l e R s m args below meth c H locs cells slots Q (F0 m tgt ls rest)) (kf : 0 < a1 → W p l e R s m args below meth c H locs cells slots Q (F0 m (pc + 3) ls rest)) : W p l e R s m args below meth c H locs cells slots Q (F0 m pc ls (.int (nI a1) :: rest)) :=
  lv_if_eq hexec hb hdg ht (fun h => kt ((nI_eq ha (by decide)).mp (h.trans nI_0.symm))) (fun h => kf (Nat.pos_of_ne_zero (fun q => h (by rw [q]; exact nI_0))))
theorem bz_ne (hexec : p.tables.exec = Jvm.exec) (hb : c.code = cc) (ha : a1 < 2 ^ 31) (hdg : decode cc pc = .ok (.ifCond .ne off, 3)) (ht : (pc : Int) + off = (tgt : Int)) (kt : 0 < a1 → W p l e R s m args below meth c H locs cells slots Q (F0 m tgt ls rest)) (kf : a1 = 0 → W p l e R s m args below meth c H locs cells slots Q (F0 m (pc + 3) ls rest)) : W p l e R s m args below meth c H locs cells slots Q (F0 m pc ls (.int (nI a1) :: rest)) :=
  lv_if_ne hexec hb hdg ht (fun h => kt (Nat.pos_of_ne_zero (fun q => h (by rw [q]; exact nI_0)))) (fun h => kf ((nI_eq ha (by decide)).mp (h.trans nI_0.symm)))
theorem bz_le (hexec : p.tables.exec = Jvm.exec) (hb : c.code = cc) (ha : a1 < 2 ^ 31) (hdg : decode cc pc = .ok (.ifCond .le off, 3)) (ht : (pc : Int) + off = (tgt : Int)) (kt : a1 = 0 → W p l e R s m args below meth c H locs cells slots Q (F0 m tgt ls rest)) (kf : 0 < a1 → W p l e R s m args below meth c H locs cells slots Q (F0 m (pc + 3) ls rest)) : W p l e R s m args below meth c H locs cells slots Q (F0 m pc ls (.int (nI a1) :: rest)) :=
  lv_if_le hexec hb hdg ht (fun h => kt (Nat.le_zero.mp ((nI_leI ha (by decide)).mp (by rw [nI_0]; exact h)))) (fun h => kf (Nat.pos_of_ne_zero (fun q => h (by rw [q, nI_0]; exact Int32.le_refl 0))))
end HP
section LC
variable {p : Program} {l : Launch} {e : Env} {R : Room} {s : State} {m : MethodId} {args : Array Value} {below : List Frame} {meth : Method} {c : Code} {H : Heap} {locs : List Loc} {cells slots : Nat} {Q : State → Prop}
variable {cc : ByteArray} {pc : Nat} {ls : Array Slot} {rest : List Value} {x y : Int64} {tgt : Nat} {off : Int}
theorem lc_lt (hexec : p.tables.exec = Jvm.exec) (hb : c.code = cc) (hdg : decode cc pc = .ok (.ifCond .lt off, 3)) (ht : (pc : Int) + off = (tgt : Int)) (kt : x < y → W p l e R s m args below meth c H locs cells slots Q (F0 m tgt ls rest)) (kf : ¬ x < y → W p l e R s m args below meth c H locs cells slots Q (F0 m (pc + 3) ls rest)) : W p l e R s m args below meth c H locs cells slots Q (F0 m pc ls (.int (lg_cmp x y) :: rest)) := lv_if_lt hexec hb hdg ht (fun h => kt ((lg_cmp_lt x y).mp h)) (fun h => kf (fun q => h ((lg_cmp_lt x y).mpr q)))
theorem lc_ge (hexec : p.tables.exec = Jvm.exec) (hb : c.code = cc) (hdg : decode cc pc = .ok (.ifCond .ge off, 3)) (ht : (pc : Int) + off = (tgt : Int)) (kt : y ≤ x → W p l e R s m args below meth c H locs cells slots Q (F0 m tgt ls rest)) (kf : ¬ y ≤ x → W p l e R s m args below meth c H locs cells slots Q (F0 m (pc + 3) ls rest)) : W p l e R s m args below meth c H locs cells slots Q (F0 m pc ls (.int (lg_cmp x y) :: rest)) := lv_if_ge hexec hb hdg ht (fun h => kt ((lg_cmp_ge x y).mp h)) (fun h => kf (fun q => h ((lg_cmp_ge x y).mpr q)))
theorem lc_gt (hexec : p.tables.exec = Jvm.exec) (hb : c.code = cc) (hdg : decode cc pc = .ok (.ifCond .gt off, 3)) (ht : (pc : Int) + off = (tgt : Int)) (kt : y < x → W p l e R s m args below meth c H locs cells slots Q (F0 m tgt ls rest)) (kf : ¬ y < x → W p l e R s m args below meth c H locs cells slots Q (F0 m (pc + 3) ls rest)) : W p l e R s m args below meth c H locs cells slots Q (F0 m pc ls (.int (lg_cmp x y) :: rest)) := lv_if_gt hexec hb hdg ht (fun h => kt ((lg_cmp_gt x y).mp h)) (fun h => kf (fun q => h ((lg_cmp_gt x y).mpr q)))
theorem lc_le (hexec : p.tables.exec = Jvm.exec) (hb : c.code = cc) (hdg : decode cc pc = .ok (.ifCond .le off, 3)) (ht : (pc : Int) + off = (tgt : Int)) (kt : x ≤ y → W p l e R s m args below meth c H locs cells slots Q (F0 m tgt ls rest)) (kf : ¬ x ≤ y → W p l e R s m args below meth c H locs cells slots Q (F0 m (pc + 3) ls rest)) : W p l e R s m args below meth c H locs cells slots Q (F0 m pc ls (.int (lg_cmp x y) :: rest)) := lv_if_le hexec hb hdg ht (fun h => kt ((lg_cmp_le x y).mp h)) (fun h => kf (fun q => h ((lg_cmp_le x y).mpr q)))
theorem lc_eq (hexec : p.tables.exec = Jvm.exec) (hb : c.code = cc) (hdg : decode cc pc = .ok (.ifCond .eq off, 3)) (ht : (pc : Int) + off = (tgt : Int)) (kt : x = y → W p l e R s m args below meth c H locs cells slots Q (F0 m tgt ls rest)) (kf : ¬ x = y → W p l e R s m args below meth c H locs cells slots Q (F0 m (pc + 3) ls rest)) : W p l e R s m args below meth c H locs cells slots Q (F0 m pc ls (.int (lg_cmp x y) :: rest)) := lv_if_eq hexec hb hdg ht (fun h => kt ((lg_cmp_eq x y).mp h)) (fun h => kf (fun q => h ((lg_cmp_eq x y).mpr q)))
theorem lc_ne (hexec : p.tables.exec = Jvm.exec) (hb : c.code = cc) (hdg : decode cc pc = .ok (.ifCond .ne off, 3)) (ht : (pc : Int) + off = (tgt : Int)) (kt : ¬ x = y → W p l e R s m args below meth c H locs cells slots Q (F0 m tgt ls rest)) (kf : x = y → W p l e R s m args below meth c H locs cells slots Q (F0 m (pc + 3) ls rest)) : W p l e R s m args below meth c H locs cells slots Q (F0 m pc ls (.int (lg_cmp x y) :: rest)) := lv_if_ne hexec hb hdg ht (fun h => kt (fun q => h ((lg_cmp_eq x y).mpr q))) (fun h => kf ((lg_cmp_eq x y).mp h))
end LC
section NA
variable {p : Program} {l : Launch} {e : Env} {R : Room} {s : State} {m : MethodId} {args : Array Value} {below : List Frame} {meth : Method} {c : Code} {H : Heap} {locs : List Loc} {cells slots : Nat} {Q : State → Prop}
variable {cc : ByteArray} {pc : Nat} {ls : Array Slot} {rest : List Value} {D : va_G} {cl : List vw_C} {A : Nat → Prop} {tys : List (ClassId × FieldType)} {ws : va_W} {H0 : Heap}
/-- a new row of ints: its class is the one that the tables know -/
theorem na_i (hexec : p.tables.exec = Jvm.exec) (hb : c.code = cc) (harr : (Cond.arrayClass .int).before args s = true) (hK : va_K D cl tys s) (hP : va_P D cl ws H) (hD : va_D A ws) (hS : va_S A H0 H locs) (hA : ∀ q, H0.size ≤ q → A q) (t0 : Nat) {cI : ClassId} (ht : tys[t0]? = some (cI, .int)) (n : Nat) (hn : n < 2 ^ 26) (hcells : cells + 1 ≤ R.cells) (hslots : slots + n ≤ R.slots) (hdg : decode cc pc = .ok (.newarray .int, 2))
    (kk : ∀ (q : Nat) (H1 : Heap), va_P D cl (ws ++ [(q, .inl (cI, n, .inl (fun _ => 0)))]) H1 → va_D A (ws ++ [(q, .inl (cI, n, .inl (fun _ => 0)))]) → va_S A H0 H1 locs → W p l e R s m args below meth c H1 locs (cells + 1) (slots + n) Q (F0 m (pc + 2) ls (.ref q :: rest))) : W p l e R s m args below meth c H locs cells slots Q (F0 m pc ls (.int (nI n) :: rest)) := by
  refine va_newa (atype := .int) (ty := .int) (a0 := (n, .inl (fun _ => 0))) (N' := n) hexec hb harr rfl hK hP hD hS hA (fun cA => rfl) (nI_pos (by omega)) (nI_clamp (by omega)) ?_ hcells hslots hdg (fun q cA H1 hK1 hP1 hD1 hS1 => ?_)
  · show n * 4 ≤ 536870912
    omega
  · have h1 := (hK1.2 tys.length (cA, .int) (by simp)).2
    have h2 := (hK.2 t0 _ ht).2
    have h3 : cA = cI := Option.some.inj (h1.symm.trans h2)
    subst h3
    exact kk q H1 hP1 hD1 hS1
end NA
end
section
theorem gw_0 : Cond.selects "CurvePaths$Path" ({ cls := "CurvePaths$Path", name := "addPart", desc := "(II)V" }) ({ cls := "CurvePaths$Path", name := "addPart", desc := "(II)V" }) ∈ gw := gw_in 0 rfl rfl
theorem gw_1 : Cond.selects "CurvePaths$Path" ({ cls := "CurvePaths$Path", name := "addPoint", desc := "(II)V" }) ({ cls := "CurvePaths$Path", name := "addPoint", desc := "(II)V" }) ∈ gw := gw_in 1 rfl rfl
theorem gw_2 : Cond.selects "CurvePaths$Arc" ({ cls := "CurvePaths$Arc", name := "takePart", desc := "(JII)V" }) ({ cls := "CurvePaths$Arc", name := "takePart", desc := "(JII)V" }) ∈ gw := gw_in 2 rfl rfl
theorem gw_3 : Cond.selects "CurvePaths$Arc" ({ cls := "CurvePaths$Arc", name := "takeQuarter", desc := "(J)V" }) ({ cls := "CurvePaths$Arc", name := "takeQuarter", desc := "(J)V" }) ∈ gw := gw_in 3 rfl rfl
theorem gw_4 : Cond.selects "CurvePaths$Arc" ({ cls := "CurvePaths$Arc", name := "turnQuarter", desc := "()V" }) ({ cls := "CurvePaths$Arc", name := "turnQuarter", desc := "()V" }) ∈ gw := gw_in 4 rfl rfl
theorem gw_5 : Cond.selects "CurvePaths$Arc" ({ cls := "CurvePaths$Arc", name := "keepBefore", desc := "(I)V" }) ({ cls := "CurvePaths$Arc", name := "keepBefore", desc := "(I)V" }) ∈ gw := gw_in 5 rfl rfl
theorem gw_6 : Cond.selects "CurvePaths$Arc" ({ cls := "CurvePaths$Arc", name := "keepBehind", desc := "(I)V" }) ({ cls := "CurvePaths$Arc", name := "keepBehind", desc := "(I)V" }) ∈ gw := gw_in 6 rfl rfl
theorem gw_7 : Cond.selects "CurvePaths$Arc" ({ cls := "CurvePaths$Arc", name := "addTaken", desc := "()V" }) ({ cls := "CurvePaths$Arc", name := "addTaken", desc := "()V" }) ∈ gw := gw_in 7 rfl rfl
theorem gw_8 : Cond.selects "CurvePaths$Arc" ({ cls := "CurvePaths$Arc", name := "addPoint", desc := "(II)V" }) ({ cls := "CurvePaths$Arc", name := "addPoint", desc := "(II)V" }) ∈ gw := gw_in 8 rfl rfl
theorem gw_9 : Cond.selects "CurvePaths" ({ cls := "CurvePaths", name := "addSweep", desc := "()I" }) ({ cls := "CurvePaths", name := "addSweep", desc := "()I" }) ∈ gw := gw_in 9 rfl rfl
theorem gw_10 : Cond.selects "CurvePaths$Path" ({ cls := "CurvePaths$Path", name := "turnSubpath", desc := "(II)V" }) ({ cls := "CurvePaths$Path", name := "turnSubpath", desc := "(II)V" }) ∈ gw := gw_in 10 rfl rfl
theorem gw_11 : Cond.selects "CurvePaths" ({ cls := "CurvePaths", name := "addFlattened", desc := "(II)Z" }) ({ cls := "CurvePaths", name := "addFlattened", desc := "(II)Z" }) ∈ gw := gw_in 11 rfl rfl
theorem gw_12 : Cond.selects "CurvePaths$Halving" ({ cls := "CurvePaths$Halving", name := "isFlat", desc := "(II)Z" }) ({ cls := "CurvePaths$Halving", name := "isFlat", desc := "(II)Z" }) ∈ gw := gw_in 12 rfl rfl
theorem gw_13 : Cond.selects "CurvePaths$Halving" ({ cls := "CurvePaths$Halving", name := "isFlatAlong", desc := "(II)Z" }) ({ cls := "CurvePaths$Halving", name := "isFlatAlong", desc := "(II)Z" }) ∈ gw := gw_in 13 rfl rfl
theorem gw_14 : Cond.selects "CurvePaths$Halving" ({ cls := "CurvePaths$Halving", name := "isStraight", desc := "(II)Z" }) ({ cls := "CurvePaths$Halving", name := "isStraight", desc := "(II)Z" }) ∈ gw := gw_in 14 rfl rfl
theorem gw_15 : Cond.selects "CurvePaths$Halving" ({ cls := "CurvePaths$Halving", name := "halve", desc := "(I)V" }) ({ cls := "CurvePaths$Halving", name := "halve", desc := "(I)V" }) ∈ gw := gw_in 15 rfl rfl
theorem gw_16 : Cond.selects "CurvePaths$Halving" ({ cls := "CurvePaths$Halving", name := "halveAlong", desc := "(I)V" }) ({ cls := "CurvePaths$Halving", name := "halveAlong", desc := "(I)V" }) ∈ gw := gw_in 16 rfl rfl
theorem gw_17 : Cond.selects "CurvePaths$Halving" ({ cls := "CurvePaths$Halving", name := "setPiece", desc := "(IIIII)V" }) ({ cls := "CurvePaths$Halving", name := "setPiece", desc := "(IIIII)V" }) ∈ gw := gw_in 17 rfl rfl
theorem gw_18 : Cond.selects "CurvePathsModel" ({ cls := "CurvePathsModel", name := "settle", desc := "()I" }) ({ cls := "CurvePathsModel", name := "settle", desc := "()I" }) ∈ gw := gw_in 18 rfl rfl
theorem gw_19 : Cond.selects "CurvePathsModel" ({ cls := "CurvePathsModel", name := "addArc", desc := "(JJJJZ)V" }) ({ cls := "CurvePathsModel", name := "addArc", desc := "(JJJJZ)V" }) ∈ gw := gw_in 19 rfl rfl
theorem gw_20 : Cond.selects "CurvePathsModel" ({ cls := "CurvePathsModel", name := "quarter", desc := "(J)V" }) ({ cls := "CurvePathsModel", name := "quarter", desc := "(J)V" }) ∈ gw := gw_in 20 rfl rfl
theorem gw_21 : Cond.selects "CurvePathsModel" ({ cls := "CurvePathsModel", name := "cut", desc := "(JJ)V" }) ({ cls := "CurvePathsModel", name := "cut", desc := "(JJ)V" }) ∈ gw := gw_in 21 rfl rfl
theorem gw_22 : Cond.selects "CurvePathsModel" ({ cls := "CurvePathsModel", name := "part", desc := "(J)V" }) ({ cls := "CurvePathsModel", name := "part", desc := "(J)V" }) ∈ gw := gw_in 22 rfl rfl
theorem gw_23 : Cond.selects "CurvePathsModel" ({ cls := "CurvePathsModel", name := "beginArc", desc := "(JJJJ)V" }) ({ cls := "CurvePathsModel", name := "beginArc", desc := "(JJJJ)V" }) ∈ gw := gw_in 23 rfl rfl
theorem gw_24 : Cond.selects "CurvePathsModel" ({ cls := "CurvePathsModel", name := "around", desc := "(JJJI)J" }) ({ cls := "CurvePathsModel", name := "around", desc := "(JJJI)J" }) ∈ gw := gw_in 24 rfl rfl
theorem gw_25 : Cond.selects "CurvePathsModel" ({ cls := "CurvePathsModel", name := "addCurve", desc := "(JJZ)V" }) ({ cls := "CurvePathsModel", name := "addCurve", desc := "(JJZ)V" }) ∈ gw := gw_in 25 rfl rfl
theorem gw_26 : Cond.selects "CurvePathsModel" ({ cls := "CurvePathsModel", name := "turn", desc := "(II)V" }) ({ cls := "CurvePathsModel", name := "turn", desc := "(II)V" }) ∈ gw := gw_in 26 rfl rfl
set_option maxRecDepth 20000 in
theorem gw_27 : Cond.initialized "CurvePathsLaw" ∈ gw := gw_in 27 rfl rfl
set_option maxRecDepth 20000 in
theorem gw_28 : Cond.initialized "CurvePaths" ∈ gw := gw_in 28 rfl rfl
set_option maxRecDepth 20000 in
theorem gw_29 : Cond.initialized "CurvePaths$Axes" ∈ gw := gw_in 29 rfl rfl
set_option maxRecDepth 20000 in
theorem gw_30 : Cond.initialized "CurvePaths$Arc" ∈ gw := gw_in 30 rfl rfl
set_option maxRecDepth 20000 in
theorem gw_31 : Cond.initialized "CurvePaths$Halving" ∈ gw := gw_in 31 rfl rfl
set_option maxRecDepth 20000 in
theorem gw_32 : Cond.initialized "CurvePaths$Path" ∈ gw := gw_in 32 rfl rfl
set_option maxRecDepth 20000 in
theorem gw_33 : Cond.initialized "CurvePathsModel" ∈ gw := gw_in 33 rfl rfl
set_option maxRecDepth 20000 in
theorem gw_34 : Cond.initialized "CurvePathsModel$Path" ∈ gw := gw_in 34 rfl rfl
set_option maxRecDepth 20000 in
theorem gw_35 : Cond.initialized "java/lang/Math" ∈ gw := gw_in 35 rfl rfl
set_option maxRecDepth 20000 in
theorem gw_36 : Cond.initialized "java/util/Arrays" ∈ gw := gw_in 36 rfl rfl
set_option maxRecDepth 20000 in
theorem gw_37 : Cond.initialized "java/lang/System" ∈ gw := gw_in 37 rfl rfl
set_option maxRecDepth 20000 in
theorem gw_38 : Cond.classLink "CurvePathsLaw" (7) "CurvePaths" ∈ gw := gw_in 38 rfl rfl
set_option maxRecDepth 20000 in
theorem gw_39 : Cond.instantiable "CurvePaths" (5) ∈ gw := gw_in 39 rfl rfl
set_option maxRecDepth 20000 in
theorem gw_40 : Cond.methodLink "CurvePathsLaw" (9) ({ cls := "CurvePaths", name := "<init>", desc := "()V" }) ∈ gw := gw_in 40 rfl rfl
set_option maxRecDepth 20000 in
theorem gw_41 : Cond.instanceMethod ({ cls := "CurvePaths", name := "<init>", desc := "()V" }) ∈ gw := gw_in 41 rfl rfl
set_option maxRecDepth 20000 in
theorem gw_42 : Cond.code ({ cls := "CurvePaths", name := "<init>", desc := "()V" }) prog_1_method_1_code (1) (Option.none : Option Jvm.ClassFile.FieldType) ∈ gw := gw_in 42 rfl rfl
set_option maxRecDepth 20000 in
theorem gw_43 : Cond.methodLink "CurvePaths" (3) ({ cls := "java/lang/Object", name := "<init>", desc := "()V" }) ∈ gw := gw_in 43 rfl rfl
set_option maxRecDepth 20000 in
theorem gw_44 : Cond.instanceMethod ({ cls := "java/lang/Object", name := "<init>", desc := "()V" }) ∈ gw := gw_in 44 rfl rfl
set_option maxRecDepth 20000 in
theorem gw_45 : Cond.code ({ cls := "java/lang/Object", name := "<init>", desc := "()V" }) object_method_1_code (1) (Option.none : Option Jvm.ClassFile.FieldType) ∈ gw := gw_in 45 rfl rfl
set_option maxRecDepth 20000 in
theorem gw_46 : Cond.classLink "CurvePaths" (9) "CurvePaths$Axes" ∈ gw := gw_in 46 rfl rfl
set_option maxRecDepth 20000 in
theorem gw_47 : Cond.instantiable "CurvePaths$Axes" (4) ∈ gw := gw_in 47 rfl rfl
set_option maxRecDepth 20000 in
theorem gw_49 : Cond.instanceMethod ({ cls := "CurvePaths$Axes", name := "<init>", desc := "()V" }) ∈ gw := gw_in 49 rfl rfl
set_option maxRecDepth 20000 in
theorem gw_50 : Cond.code ({ cls := "CurvePaths$Axes", name := "<init>", desc := "()V" }) prog_3_method_1_code (1) (Option.none : Option Jvm.ClassFile.FieldType) ∈ gw := gw_in 50 rfl rfl
set_option maxRecDepth 20000 in
theorem gw_51 : Cond.methodLink "CurvePaths$Axes" (3) ({ cls := "java/lang/Object", name := "<init>", desc := "()V" }) ∈ gw := gw_in 51 rfl rfl
set_option maxRecDepth 20000 in
theorem gw_52 : Cond.fieldLink "CurvePaths$Axes" (9) "CurvePaths$Axes" "p" "J" ∈ gw := gw_in 52 rfl rfl
set_option maxRecDepth 20000 in
theorem gw_53 : Cond.fieldLink "CurvePaths$Axes" (15) "CurvePaths$Axes" "q" "J" ∈ gw := gw_in 53 rfl rfl
set_option maxRecDepth 20000 in
theorem gw_54 : Cond.fieldLink "CurvePaths$Axes" (18) "CurvePaths$Axes" "\x72" "J" ∈ gw := gw_in 54 rfl rfl
set_option maxRecDepth 20000 in
theorem gw_55 : Cond.fieldLink "CurvePaths$Axes" (21) "CurvePaths$Axes" "s" "J" ∈ gw := gw_in 55 rfl rfl
set_option maxRecDepth 20000 in
theorem gw_65 : Cond.classLink "CurvePaths" (16) "CurvePaths$Arc" ∈ gw := gw_in 65 rfl rfl
set_option maxRecDepth 20000 in
theorem gw_66 : Cond.instantiable "CurvePaths$Arc" (5) ∈ gw := gw_in 66 rfl rfl
set_option maxRecDepth 20000 in
theorem gw_68 : Cond.instanceMethod ({ cls := "CurvePaths$Arc", name := "<init>", desc := "()V" }) ∈ gw := gw_in 68 rfl rfl
set_option maxRecDepth 20000 in
theorem gw_69 : Cond.code ({ cls := "CurvePaths$Arc", name := "<init>", desc := "()V" }) prog_2_method_1_code (1) (Option.none : Option Jvm.ClassFile.FieldType) ∈ gw := gw_in 69 rfl rfl
set_option maxRecDepth 20000 in
theorem gw_70 : Cond.methodLink "CurvePaths$Arc" (5) ({ cls := "java/lang/Object", name := "<init>", desc := "()V" }) ∈ gw := gw_in 70 rfl rfl
set_option maxRecDepth 20000 in
theorem gw_71 : Cond.fieldLink "CurvePaths$Arc" (11) "CurvePaths$Arc" "xs" "[I" ∈ gw := gw_in 71 rfl rfl
set_option maxRecDepth 20000 in
theorem gw_72 : Cond.fieldLink "CurvePaths" (178) "CurvePaths$Arc" "xs" "[I" ∈ gw := gw_in 72 rfl rfl
set_option maxRecDepth 20000 in
theorem gw_73 : Cond.fieldLink "CurvePaths$Arc" (15) "CurvePaths$Arc" "ys" "[I" ∈ gw := gw_in 73 rfl rfl
set_option maxRecDepth 20000 in
theorem gw_74 : Cond.fieldLink "CurvePaths" (179) "CurvePaths$Arc" "ys" "[I" ∈ gw := gw_in 74 rfl rfl
set_option maxRecDepth 20000 in
theorem gw_75 : Cond.fieldLink "CurvePaths$Arc" (18) "CurvePaths$Arc" "as" "[I" ∈ gw := gw_in 75 rfl rfl
set_option maxRecDepth 20000 in
theorem gw_76 : Cond.fieldLink "CurvePaths$Arc" (21) "CurvePaths$Arc" "bs" "[I" ∈ gw := gw_in 76 rfl rfl
set_option maxRecDepth 20000 in
theorem gw_77 : Cond.fieldLink "CurvePaths$Arc" (24) "CurvePaths$Arc" "pointCount" "I" ∈ gw := gw_in 77 rfl rfl
set_option maxRecDepth 20000 in
theorem gw_89 : Cond.arrayClass Jvm.ClassFile.FieldType.int ∈ gw := gw_in 89 rfl rfl
set_option maxRecDepth 20000 in
theorem gw_90 : Cond.classLink "CurvePaths" (23) "CurvePaths$Halving" ∈ gw := gw_in 90 rfl rfl
set_option maxRecDepth 20000 in
theorem gw_91 : Cond.instantiable "CurvePaths$Halving" (2) ∈ gw := gw_in 91 rfl rfl
set_option maxRecDepth 20000 in
theorem gw_93 : Cond.instanceMethod ({ cls := "CurvePaths$Halving", name := "<init>", desc := "()V" }) ∈ gw := gw_in 93 rfl rfl
set_option maxRecDepth 20000 in
theorem gw_94 : Cond.code ({ cls := "CurvePaths$Halving", name := "<init>", desc := "()V" }) prog_4_method_1_code (1) (Option.none : Option Jvm.ClassFile.FieldType) ∈ gw := gw_in 94 rfl rfl
set_option maxRecDepth 20000 in
theorem gw_95 : Cond.methodLink "CurvePaths$Halving" (1) ({ cls := "java/lang/Object", name := "<init>", desc := "()V" }) ∈ gw := gw_in 95 rfl rfl
set_option maxRecDepth 20000 in
theorem gw_96 : Cond.fieldLink "CurvePaths$Halving" (9) "CurvePaths$Halving" "pieces" "[I" ∈ gw := gw_in 96 rfl rfl
set_option maxRecDepth 20000 in
theorem gw_97 : Cond.fieldLink "CurvePaths$Halving" (13) "CurvePaths$Halving" "halvings" "[I" ∈ gw := gw_in 97 rfl rfl
set_option maxRecDepth 20000 in
theorem gw_103 : Cond.classLink "CurvePaths" (30) "CurvePaths$Path" ∈ gw := gw_in 103 rfl rfl
set_option maxRecDepth 20000 in
theorem gw_104 : Cond.instantiable "CurvePaths$Path" (7) ∈ gw := gw_in 104 rfl rfl
set_option maxRecDepth 20000 in
theorem gw_106 : Cond.instanceMethod ({ cls := "CurvePaths$Path", name := "<init>", desc := "()V" }) ∈ gw := gw_in 106 rfl rfl
set_option maxRecDepth 20000 in
theorem gw_107 : Cond.code ({ cls := "CurvePaths$Path", name := "<init>", desc := "()V" }) prog_5_method_1_code (1) (Option.none : Option Jvm.ClassFile.FieldType) ∈ gw := gw_in 107 rfl rfl
set_option maxRecDepth 20000 in
theorem gw_108 : Cond.methodLink "CurvePaths$Path" (3) ({ cls := "java/lang/Object", name := "<init>", desc := "()V" }) ∈ gw := gw_in 108 rfl rfl
set_option maxRecDepth 20000 in
theorem gw_109 : Cond.fieldLink "CurvePaths$Path" (9) "CurvePaths$Path" "kinds" "[I" ∈ gw := gw_in 109 rfl rfl
set_option maxRecDepth 20000 in
theorem gw_110 : Cond.fieldLink "CurvePaths" (151) "CurvePaths$Path" "kinds" "[I" ∈ gw := gw_in 110 rfl rfl
set_option maxRecDepth 20000 in
theorem gw_111 : Cond.fieldLink "CurvePaths$Path" (15) "CurvePaths$Path" "firsts" "[I" ∈ gw := gw_in 111 rfl rfl
set_option maxRecDepth 20000 in
theorem gw_112 : Cond.fieldLink "CurvePaths" (162) "CurvePaths$Path" "firsts" "[I" ∈ gw := gw_in 112 rfl rfl
set_option maxRecDepth 20000 in
theorem gw_113 : Cond.fieldLink "CurvePaths$Path" (18) "CurvePaths$Path" "xs" "[I" ∈ gw := gw_in 113 rfl rfl
set_option maxRecDepth 20000 in
theorem gw_114 : Cond.fieldLink "CurvePaths$Halving" (28) "CurvePaths$Path" "xs" "[I" ∈ gw := gw_in 114 rfl rfl
set_option maxRecDepth 20000 in
theorem gw_115 : Cond.fieldLink "CurvePaths" (119) "CurvePaths$Path" "xs" "[I" ∈ gw := gw_in 115 rfl rfl
set_option maxRecDepth 20000 in
theorem gw_116 : Cond.fieldLink "CurvePaths$Path" (21) "CurvePaths$Path" "ys" "[I" ∈ gw := gw_in 116 rfl rfl
set_option maxRecDepth 20000 in
theorem gw_117 : Cond.fieldLink "CurvePaths$Halving" (31) "CurvePaths$Path" "ys" "[I" ∈ gw := gw_in 117 rfl rfl
set_option maxRecDepth 20000 in
theorem gw_118 : Cond.fieldLink "CurvePaths" (130) "CurvePaths$Path" "ys" "[I" ∈ gw := gw_in 118 rfl rfl
set_option maxRecDepth 20000 in
theorem gw_119 : Cond.fieldLink "CurvePaths$Path" (24) "CurvePaths$Path" "partCount" "I" ∈ gw := gw_in 119 rfl rfl
set_option maxRecDepth 20000 in
theorem gw_120 : Cond.fieldLink "CurvePaths" (52) "CurvePaths$Path" "partCount" "I" ∈ gw := gw_in 120 rfl rfl
set_option maxRecDepth 20000 in
theorem gw_121 : Cond.fieldLink "CurvePaths$Halving" (22) "CurvePaths$Path" "pointCount" "I" ∈ gw := gw_in 121 rfl rfl
set_option maxRecDepth 20000 in
theorem gw_122 : Cond.fieldLink "CurvePaths" (123) "CurvePaths$Path" "pointCount" "I" ∈ gw := gw_in 122 rfl rfl
set_option maxRecDepth 20000 in
theorem gw_123 : Cond.fieldLink "CurvePaths$Path" (40) "CurvePaths$Path" "pointCount" "I" ∈ gw := gw_in 123 rfl rfl
set_option maxRecDepth 20000 in
theorem gw_124 : Cond.fieldLink "CurvePaths$Path" (43) "CurvePaths$Path" "begunAt" "I" ∈ gw := gw_in 124 rfl rfl
set_option maxRecDepth 20000 in
theorem gw_140 : Cond.fieldLink "CurvePaths" (12) "CurvePaths" "directions" "LCurvePaths$Axes;" ∈ gw := gw_in 140 rfl rfl
set_option maxRecDepth 20000 in
theorem gw_141 : Cond.fieldLink "CurvePaths" (19) "CurvePaths" "sweep" "LCurvePaths$Arc;" ∈ gw := gw_in 141 rfl rfl
set_option maxRecDepth 20000 in
theorem gw_142 : Cond.fieldLink "CurvePaths" (26) "CurvePaths" "halving" "LCurvePaths$Halving;" ∈ gw := gw_in 142 rfl rfl
set_option maxRecDepth 20000 in
theorem gw_143 : Cond.fieldLink "CurvePaths" (33) "CurvePaths" "path" "LCurvePaths$Path;" ∈ gw := gw_in 143 rfl rfl
set_option maxRecDepth 20000 in
theorem gw_144 : Cond.fieldLink "CurvePaths" (37) "CurvePaths" "spare" "LCurvePaths$Path;" ∈ gw := gw_in 144 rfl rfl
set_option maxRecDepth 20000 in
theorem gw_156 : Cond.methodLink "CurvePathsLaw" (13) ({ cls := "CurvePaths", name := "move", desc := "(II)I" }) ∈ gw := gw_in 156 rfl rfl
set_option maxRecDepth 20000 in
theorem gw_157 : Cond.instanceMethod ({ cls := "CurvePaths", name := "move", desc := "(II)I" }) ∈ gw := gw_in 157 rfl rfl
set_option maxRecDepth 20000 in
theorem gw_158 : Cond.selects "CurvePaths" ({ cls := "CurvePaths", name := "move", desc := "(II)I" }) ({ cls := "CurvePaths", name := "move", desc := "(II)I" }) ∈ gw := gw_in 158 rfl rfl
set_option maxRecDepth 20000 in
theorem gw_159 : Cond.code ({ cls := "CurvePaths", name := "move", desc := "(II)I" }) prog_1_method_2_code (3) (Option.some Jvm.ClassFile.FieldType.int) ∈ gw := gw_in 159 rfl rfl
set_option maxRecDepth 20000 in
theorem gw_160 : Cond.methodLink "CurvePaths" (40) ({ cls := "CurvePaths", name := "isFarPoint", desc := "(JJ)Z" }) ∈ gw := gw_in 160 rfl rfl
set_option maxRecDepth 20000 in
theorem gw_161 : Cond.static ({ cls := "CurvePaths", name := "isFarPoint", desc := "(JJ)Z" }) ∈ gw := gw_in 161 rfl rfl
set_option maxRecDepth 20000 in
theorem gw_162 : Cond.code ({ cls := "CurvePaths", name := "isFarPoint", desc := "(JJ)Z" }) prog_1_method_23_code (4) (Option.some Jvm.ClassFile.FieldType.boolean) ∈ gw := gw_in 162 rfl rfl
set_option maxRecDepth 20000 in
theorem gw_163 : Cond.methodLink "CurvePaths" (201) ({ cls := "CurvePaths", name := "isFar", desc := "(J)Z" }) ∈ gw := gw_in 163 rfl rfl
set_option maxRecDepth 20000 in
theorem gw_164 : Cond.static ({ cls := "CurvePaths", name := "isFar", desc := "(J)Z" }) ∈ gw := gw_in 164 rfl rfl
set_option maxRecDepth 20000 in
theorem gw_165 : Cond.code ({ cls := "CurvePaths", name := "isFar", desc := "(J)Z" }) prog_1_method_22_code (2) (Option.some Jvm.ClassFile.FieldType.boolean) ∈ gw := gw_in 165 rfl rfl
set_option maxRecDepth 20000 in
theorem gw_166 : Cond.constantLong "CurvePaths" (197) (-536870912 : Int64) ∈ gw := gw_in 166 rfl rfl
set_option maxRecDepth 20000 in
theorem gw_167 : Cond.constantLong "CurvePaths" (199) (536870912 : Int64) ∈ gw := gw_in 167 rfl rfl
set_option maxRecDepth 20000 in
theorem gw_168 : Cond.methodLink "CurvePaths" (44) ({ cls := "CurvePaths$Path", name := "onlyBegan", desc := "()Z" }) ∈ gw := gw_in 168 rfl rfl
set_option maxRecDepth 20000 in
theorem gw_169 : Cond.instanceMethod ({ cls := "CurvePaths$Path", name := "onlyBegan", desc := "()Z" }) ∈ gw := gw_in 169 rfl rfl
set_option maxRecDepth 20000 in
theorem gw_170 : Cond.selects "CurvePaths$Path" ({ cls := "CurvePaths$Path", name := "onlyBegan", desc := "()Z" }) ({ cls := "CurvePaths$Path", name := "onlyBegan", desc := "()Z" }) ∈ gw := gw_in 170 rfl rfl
set_option maxRecDepth 20000 in
theorem gw_171 : Cond.code ({ cls := "CurvePaths$Path", name := "onlyBegan", desc := "()Z" }) prog_5_method_4_code (1) (Option.some Jvm.ClassFile.FieldType.boolean) ∈ gw := gw_in 171 rfl rfl
set_option maxRecDepth 20000 in
theorem gw_172 : Cond.methodLink "CurvePaths" (48) ({ cls := "CurvePaths$Path", name := "replaceBeginning", desc := "(II)V" }) ∈ gw := gw_in 172 rfl rfl
set_option maxRecDepth 20000 in
theorem gw_173 : Cond.instanceMethod ({ cls := "CurvePaths$Path", name := "replaceBeginning", desc := "(II)V" }) ∈ gw := gw_in 173 rfl rfl
set_option maxRecDepth 20000 in
theorem gw_174 : Cond.selects "CurvePaths$Path" ({ cls := "CurvePaths$Path", name := "replaceBeginning", desc := "(II)V" }) ({ cls := "CurvePaths$Path", name := "replaceBeginning", desc := "(II)V" }) ∈ gw := gw_in 174 rfl rfl
set_option maxRecDepth 20000 in
theorem gw_175 : Cond.code ({ cls := "CurvePaths$Path", name := "replaceBeginning", desc := "(II)V" }) prog_5_method_12_code (3) (Option.none : Option Jvm.ClassFile.FieldType) ∈ gw := gw_in 175 rfl rfl
set_option maxRecDepth 20000 in
theorem gw_176 : Cond.methodLink "CurvePaths" (56) ({ cls := "CurvePaths$Path", name := "takes", desc := "(I)Z" }) ∈ gw := gw_in 176 rfl rfl
set_option maxRecDepth 20000 in
theorem gw_177 : Cond.instanceMethod ({ cls := "CurvePaths$Path", name := "takes", desc := "(I)Z" }) ∈ gw := gw_in 177 rfl rfl
set_option maxRecDepth 20000 in
theorem gw_178 : Cond.selects "CurvePaths$Path" ({ cls := "CurvePaths$Path", name := "takes", desc := "(I)Z" }) ({ cls := "CurvePaths$Path", name := "takes", desc := "(I)Z" }) ∈ gw := gw_in 178 rfl rfl
set_option maxRecDepth 20000 in
theorem gw_179 : Cond.code ({ cls := "CurvePaths$Path", name := "takes", desc := "(I)Z" }) prog_5_method_6_code (2) (Option.some Jvm.ClassFile.FieldType.boolean) ∈ gw := gw_in 179 rfl rfl
set_option maxRecDepth 20000 in
theorem gw_180 : Cond.methodLink "CurvePaths" (60) ({ cls := "CurvePaths$Path", name := "addBeginning", desc := "(II)V" }) ∈ gw := gw_in 180 rfl rfl
set_option maxRecDepth 20000 in
theorem gw_181 : Cond.instanceMethod ({ cls := "CurvePaths$Path", name := "addBeginning", desc := "(II)V" }) ∈ gw := gw_in 181 rfl rfl
set_option maxRecDepth 20000 in
theorem gw_182 : Cond.selects "CurvePaths$Path" ({ cls := "CurvePaths$Path", name := "addBeginning", desc := "(II)V" }) ({ cls := "CurvePaths$Path", name := "addBeginning", desc := "(II)V" }) ∈ gw := gw_in 182 rfl rfl
set_option maxRecDepth 20000 in
theorem gw_183 : Cond.code ({ cls := "CurvePaths$Path", name := "addBeginning", desc := "(II)V" }) prog_5_method_13_code (3) (Option.none : Option Jvm.ClassFile.FieldType) ∈ gw := gw_in 183 rfl rfl
set_option maxRecDepth 20000 in
theorem gw_184 : Cond.methodLink "CurvePaths$Path" (46) ({ cls := "CurvePaths$Path", name := "addPart", desc := "(II)V" }) ∈ gw := gw_in 184 rfl rfl
set_option maxRecDepth 20000 in
theorem gw_186 : Cond.instanceMethod ({ cls := "CurvePaths$Path", name := "addPart", desc := "(II)V" }) ∈ gw := gw_in 186 rfl rfl
set_option maxRecDepth 20000 in
theorem gw_187 : Cond.code ({ cls := "CurvePaths$Path", name := "addPart", desc := "(II)V" }) prog_5_method_20_code (3) (Option.none : Option Jvm.ClassFile.FieldType) ∈ gw := gw_in 187 rfl rfl
set_option maxRecDepth 20000 in
theorem gw_189 : Cond.static ({ cls := "CurvePaths", name := "withRoom", desc := "([III)[I" }) ∈ gw := gw_in 189 rfl rfl
set_option maxRecDepth 20000 in
theorem gw_190 : Cond.code ({ cls := "CurvePaths", name := "withRoom", desc := "([III)[I" }) prog_1_method_29_code (3) (Option.some (Jvm.ClassFile.FieldType.array Jvm.ClassFile.FieldType.int)) ∈ gw := gw_in 190 rfl rfl
set_option maxRecDepth 20000 in
theorem gw_191 : Cond.methodLink "CurvePaths" (205) ({ cls := "java/lang/Math", name := "min", desc := "(II)I" }) ∈ gw := gw_in 191 rfl rfl
set_option maxRecDepth 20000 in
theorem gw_192 : Cond.static ({ cls := "java/lang/Math", name := "min", desc := "(II)I" }) ∈ gw := gw_in 192 rfl rfl
set_option maxRecDepth 20000 in
theorem gw_193 : Cond.code ({ cls := "java/lang/Math", name := "min", desc := "(II)I" }) prog_10_method_69_code (2) (Option.some Jvm.ClassFile.FieldType.int) ∈ gw := gw_in 193 rfl rfl
set_option maxRecDepth 20000 in
theorem gw_194 : Cond.methodLink "CurvePaths" (208) ({ cls := "java/lang/Math", name := "max", desc := "(II)I" }) ∈ gw := gw_in 194 rfl rfl
set_option maxRecDepth 20000 in
theorem gw_195 : Cond.static ({ cls := "java/lang/Math", name := "max", desc := "(II)I" }) ∈ gw := gw_in 195 rfl rfl
set_option maxRecDepth 20000 in
theorem gw_196 : Cond.code ({ cls := "java/lang/Math", name := "max", desc := "(II)I" }) prog_10_method_65_code (2) (Option.some Jvm.ClassFile.FieldType.int) ∈ gw := gw_in 196 rfl rfl
set_option maxRecDepth 20000 in
theorem gw_197 : Cond.methodLink "CurvePaths" (211) ({ cls := "java/util/Arrays", name := "copyOf", desc := "([II)[I" }) ∈ gw := gw_in 197 rfl rfl
set_option maxRecDepth 20000 in
theorem gw_198 : Cond.static ({ cls := "java/util/Arrays", name := "copyOf", desc := "([II)[I" }) ∈ gw := gw_in 198 rfl rfl
set_option maxRecDepth 20000 in
theorem gw_199 : Cond.code ({ cls := "java/util/Arrays", name := "copyOf", desc := "([II)[I" }) prog_12_method_123_code (3) (Option.some (Jvm.ClassFile.FieldType.array Jvm.ClassFile.FieldType.int)) ∈ gw := gw_in 199 rfl rfl
set_option maxRecDepth 20000 in
theorem gw_200 : Cond.methodLink "java/util/Arrays" (316) ({ cls := "[I", name := "clone", desc := "()Ljava/lang/Object;" }) ∈ gw := gw_in 200 rfl rfl
set_option maxRecDepth 20000 in
theorem gw_202 : Cond.native ({ cls := "java/lang/Object", name := "clone", desc := "()Ljava/lang/Object;" }) ∈ gw := gw_in 202 rfl rfl
set_option maxRecDepth 20000 in
theorem gw_203 : Cond.instanceMethod ({ cls := "java/lang/Object", name := "clone", desc := "()Ljava/lang/Object;" }) ∈ gw := gw_in 203 rfl rfl
set_option maxRecDepth 20000 in
theorem gw_204 : Cond.selects "[I" ({ cls := "[I", name := "clone", desc := "()Ljava/lang/Object;" }) ({ cls := "java/lang/Object", name := "clone", desc := "()Ljava/lang/Object;" }) ∈ gw := gw_in 204 rfl rfl
set_option maxRecDepth 20000 in
theorem gw_206 : Cond.classLink "java/util/Arrays" (317) "[I" ∈ gw := gw_in 206 rfl rfl
set_option maxRecDepth 20000 in
theorem gw_207 : Cond.methodLink "java/util/Arrays" (304) ({ cls := "java/lang/Math", name := "min", desc := "(II)I" }) ∈ gw := gw_in 207 rfl rfl
set_option maxRecDepth 20000 in
theorem gw_208 : Cond.methodLink "java/util/Arrays" (150) ({ cls := "java/lang/System", name := "arraycopy", desc := "(Ljava/lang/Object;ILjava/lang/Object;II)V" }) ∈ gw := gw_in 208 rfl rfl
set_option maxRecDepth 20000 in
theorem gw_209 : Cond.static ({ cls := "java/lang/System", name := "arraycopy", desc := "(Ljava/lang/Object;ILjava/lang/Object;II)V" }) ∈ gw := gw_in 209 rfl rfl
set_option maxRecDepth 20000 in
theorem gw_210 : Cond.native ({ cls := "java/lang/System", name := "arraycopy", desc := "(Ljava/lang/Object;ILjava/lang/Object;II)V" }) ∈ gw := gw_in 210 rfl rfl
set_option maxRecDepth 20000 in
theorem gw_211 : Cond.methodLink "CurvePaths$Path" (50) ({ cls := "CurvePaths$Path", name := "addPoint", desc := "(II)V" }) ∈ gw := gw_in 211 rfl rfl
set_option maxRecDepth 20000 in
theorem gw_213 : Cond.instanceMethod ({ cls := "CurvePaths$Path", name := "addPoint", desc := "(II)V" }) ∈ gw := gw_in 213 rfl rfl
set_option maxRecDepth 20000 in
theorem gw_214 : Cond.code ({ cls := "CurvePaths$Path", name := "addPoint", desc := "(II)V" }) prog_5_method_21_code (3) (Option.none : Option Jvm.ClassFile.FieldType) ∈ gw := gw_in 214 rfl rfl
set_option maxRecDepth 20000 in
theorem gw_215 : Cond.methodLink "CurvePathsLaw" (18) ({ cls := "CurvePaths", name := "line", desc := "(II)I" }) ∈ gw := gw_in 215 rfl rfl
set_option maxRecDepth 20000 in
theorem gw_216 : Cond.instanceMethod ({ cls := "CurvePaths", name := "line", desc := "(II)I" }) ∈ gw := gw_in 216 rfl rfl
set_option maxRecDepth 20000 in
theorem gw_217 : Cond.selects "CurvePaths" ({ cls := "CurvePaths", name := "line", desc := "(II)I" }) ({ cls := "CurvePaths", name := "line", desc := "(II)I" }) ∈ gw := gw_in 217 rfl rfl
set_option maxRecDepth 20000 in
theorem gw_218 : Cond.code ({ cls := "CurvePaths", name := "line", desc := "(II)I" }) prog_1_method_3_code (3) (Option.some Jvm.ClassFile.FieldType.int) ∈ gw := gw_in 218 rfl rfl
set_option maxRecDepth 20000 in
theorem gw_219 : Cond.methodLink "CurvePaths" (63) ({ cls := "CurvePaths$Path", name := "isEmpty", desc := "()Z" }) ∈ gw := gw_in 219 rfl rfl
set_option maxRecDepth 20000 in
theorem gw_220 : Cond.instanceMethod ({ cls := "CurvePaths$Path", name := "isEmpty", desc := "()Z" }) ∈ gw := gw_in 220 rfl rfl
set_option maxRecDepth 20000 in
theorem gw_221 : Cond.selects "CurvePaths$Path" ({ cls := "CurvePaths$Path", name := "isEmpty", desc := "()Z" }) ({ cls := "CurvePaths$Path", name := "isEmpty", desc := "()Z" }) ∈ gw := gw_in 221 rfl rfl
set_option maxRecDepth 20000 in
theorem gw_222 : Cond.code ({ cls := "CurvePaths$Path", name := "isEmpty", desc := "()Z" }) prog_5_method_2_code (1) (Option.some Jvm.ClassFile.FieldType.boolean) ∈ gw := gw_in 222 rfl rfl
set_option maxRecDepth 20000 in
theorem gw_223 : Cond.methodLink "CurvePaths" (66) ({ cls := "CurvePaths$Path", name := "takesSegments", desc := "(I)Z" }) ∈ gw := gw_in 223 rfl rfl
set_option maxRecDepth 20000 in
theorem gw_224 : Cond.instanceMethod ({ cls := "CurvePaths$Path", name := "takesSegments", desc := "(I)Z" }) ∈ gw := gw_in 224 rfl rfl
set_option maxRecDepth 20000 in
theorem gw_225 : Cond.selects "CurvePaths$Path" ({ cls := "CurvePaths$Path", name := "takesSegments", desc := "(I)Z" }) ({ cls := "CurvePaths$Path", name := "takesSegments", desc := "(I)Z" }) ∈ gw := gw_in 225 rfl rfl
set_option maxRecDepth 20000 in
theorem gw_226 : Cond.code ({ cls := "CurvePaths$Path", name := "takesSegments", desc := "(I)Z" }) prog_5_method_7_code (2) (Option.some Jvm.ClassFile.FieldType.boolean) ∈ gw := gw_in 226 rfl rfl
set_option maxRecDepth 20000 in
theorem gw_227 : Cond.methodLink "CurvePaths$Path" (28) ({ cls := "CurvePaths$Path", name := "isClosed", desc := "()Z" }) ∈ gw := gw_in 227 rfl rfl
set_option maxRecDepth 20000 in
theorem gw_228 : Cond.instanceMethod ({ cls := "CurvePaths$Path", name := "isClosed", desc := "()Z" }) ∈ gw := gw_in 228 rfl rfl
set_option maxRecDepth 20000 in
theorem gw_229 : Cond.selects "CurvePaths$Path" ({ cls := "CurvePaths$Path", name := "isClosed", desc := "()Z" }) ({ cls := "CurvePaths$Path", name := "isClosed", desc := "()Z" }) ∈ gw := gw_in 229 rfl rfl
set_option maxRecDepth 20000 in
theorem gw_230 : Cond.code ({ cls := "CurvePaths$Path", name := "isClosed", desc := "()Z" }) prog_5_method_5_code (1) (Option.some Jvm.ClassFile.FieldType.boolean) ∈ gw := gw_in 230 rfl rfl
set_option maxRecDepth 20000 in
theorem gw_231 : Cond.methodLink "CurvePaths$Path" (32) ({ cls := "CurvePaths$Path", name := "takes", desc := "(I)Z" }) ∈ gw := gw_in 231 rfl rfl
set_option maxRecDepth 20000 in
theorem gw_232 : Cond.methodLink "CurvePaths" (69) ({ cls := "CurvePaths$Path", name := "goOn", desc := "()V" }) ∈ gw := gw_in 232 rfl rfl
set_option maxRecDepth 20000 in
theorem gw_233 : Cond.instanceMethod ({ cls := "CurvePaths$Path", name := "goOn", desc := "()V" }) ∈ gw := gw_in 233 rfl rfl
set_option maxRecDepth 20000 in
theorem gw_234 : Cond.selects "CurvePaths$Path" ({ cls := "CurvePaths$Path", name := "goOn", desc := "()V" }) ({ cls := "CurvePaths$Path", name := "goOn", desc := "()V" }) ∈ gw := gw_in 234 rfl rfl
set_option maxRecDepth 20000 in
theorem gw_235 : Cond.code ({ cls := "CurvePaths$Path", name := "goOn", desc := "()V" }) prog_5_method_17_code (1) (Option.none : Option Jvm.ClassFile.FieldType) ∈ gw := gw_in 235 rfl rfl
set_option maxRecDepth 20000 in
theorem gw_236 : Cond.methodLink "CurvePaths$Path" (53) ({ cls := "CurvePaths$Path", name := "addBeginning", desc := "(II)V" }) ∈ gw := gw_in 236 rfl rfl
set_option maxRecDepth 20000 in
theorem gw_237 : Cond.methodLink "CurvePaths" (72) ({ cls := "CurvePaths$Path", name := "addLine", desc := "(II)V" }) ∈ gw := gw_in 237 rfl rfl
set_option maxRecDepth 20000 in
theorem gw_238 : Cond.instanceMethod ({ cls := "CurvePaths$Path", name := "addLine", desc := "(II)V" }) ∈ gw := gw_in 238 rfl rfl
set_option maxRecDepth 20000 in
theorem gw_239 : Cond.selects "CurvePaths$Path" ({ cls := "CurvePaths$Path", name := "addLine", desc := "(II)V" }) ({ cls := "CurvePaths$Path", name := "addLine", desc := "(II)V" }) ∈ gw := gw_in 239 rfl rfl
set_option maxRecDepth 20000 in
theorem gw_240 : Cond.code ({ cls := "CurvePaths$Path", name := "addLine", desc := "(II)V" }) prog_5_method_14_code (3) (Option.none : Option Jvm.ClassFile.FieldType) ∈ gw := gw_in 240 rfl rfl
set_option maxRecDepth 20000 in
theorem gw_241 : Cond.methodLink "CurvePathsLaw" (22) ({ cls := "CurvePaths", name := "curve", desc := "(IIIIII)I" }) ∈ gw := gw_in 241 rfl rfl
set_option maxRecDepth 20000 in
theorem gw_242 : Cond.instanceMethod ({ cls := "CurvePaths", name := "curve", desc := "(IIIIII)I" }) ∈ gw := gw_in 242 rfl rfl
set_option maxRecDepth 20000 in
theorem gw_243 : Cond.selects "CurvePaths" ({ cls := "CurvePaths", name := "curve", desc := "(IIIIII)I" }) ({ cls := "CurvePaths", name := "curve", desc := "(IIIIII)I" }) ∈ gw := gw_in 243 rfl rfl
set_option maxRecDepth 20000 in
theorem gw_244 : Cond.code ({ cls := "CurvePaths", name := "curve", desc := "(IIIIII)I" }) prog_1_method_4_code (7) (Option.some Jvm.ClassFile.FieldType.int) ∈ gw := gw_in 244 rfl rfl
set_option maxRecDepth 20000 in
theorem gw_245 : Cond.methodLink "CurvePaths" (75) ({ cls := "CurvePaths$Path", name := "addCurve", desc := "(IIIIII)V" }) ∈ gw := gw_in 245 rfl rfl
set_option maxRecDepth 20000 in
theorem gw_246 : Cond.instanceMethod ({ cls := "CurvePaths$Path", name := "addCurve", desc := "(IIIIII)V" }) ∈ gw := gw_in 246 rfl rfl
set_option maxRecDepth 20000 in
theorem gw_247 : Cond.selects "CurvePaths$Path" ({ cls := "CurvePaths$Path", name := "addCurve", desc := "(IIIIII)V" }) ({ cls := "CurvePaths$Path", name := "addCurve", desc := "(IIIIII)V" }) ∈ gw := gw_in 247 rfl rfl
set_option maxRecDepth 20000 in
theorem gw_248 : Cond.code ({ cls := "CurvePaths$Path", name := "addCurve", desc := "(IIIIII)V" }) prog_5_method_15_code (7) (Option.none : Option Jvm.ClassFile.FieldType) ∈ gw := gw_in 248 rfl rfl
set_option maxRecDepth 20000 in
theorem gw_249 : Cond.methodLink "CurvePathsLaw" (27) ({ cls := "CurvePaths", name := "close", desc := "()I" }) ∈ gw := gw_in 249 rfl rfl
set_option maxRecDepth 20000 in
theorem gw_250 : Cond.instanceMethod ({ cls := "CurvePaths", name := "close", desc := "()I" }) ∈ gw := gw_in 250 rfl rfl
set_option maxRecDepth 20000 in
theorem gw_251 : Cond.selects "CurvePaths" ({ cls := "CurvePaths", name := "close", desc := "()I" }) ({ cls := "CurvePaths", name := "close", desc := "()I" }) ∈ gw := gw_in 251 rfl rfl
set_option maxRecDepth 20000 in
theorem gw_252 : Cond.code ({ cls := "CurvePaths", name := "close", desc := "()I" }) prog_1_method_5_code (1) (Option.some Jvm.ClassFile.FieldType.int) ∈ gw := gw_in 252 rfl rfl
set_option maxRecDepth 20000 in
theorem gw_253 : Cond.methodLink "CurvePaths" (79) ({ cls := "CurvePaths$Path", name := "isClosed", desc := "()Z" }) ∈ gw := gw_in 253 rfl rfl
set_option maxRecDepth 20000 in
theorem gw_254 : Cond.methodLink "CurvePaths" (82) ({ cls := "CurvePaths$Path", name := "addClosing", desc := "()V" }) ∈ gw := gw_in 254 rfl rfl
set_option maxRecDepth 20000 in
theorem gw_255 : Cond.instanceMethod ({ cls := "CurvePaths$Path", name := "addClosing", desc := "()V" }) ∈ gw := gw_in 255 rfl rfl
set_option maxRecDepth 20000 in
theorem gw_256 : Cond.selects "CurvePaths$Path" ({ cls := "CurvePaths$Path", name := "addClosing", desc := "()V" }) ({ cls := "CurvePaths$Path", name := "addClosing", desc := "()V" }) ∈ gw := gw_in 256 rfl rfl
set_option maxRecDepth 20000 in
theorem gw_257 : Cond.code ({ cls := "CurvePaths$Path", name := "addClosing", desc := "()V" }) prog_5_method_16_code (1) (Option.none : Option Jvm.ClassFile.FieldType) ∈ gw := gw_in 257 rfl rfl
set_option maxRecDepth 20000 in
theorem gw_258 : Cond.methodLink "CurvePathsLaw" (32) ({ cls := "CurvePaths", name := "axes", desc := "(IIII)Z" }) ∈ gw := gw_in 258 rfl rfl
set_option maxRecDepth 20000 in
theorem gw_259 : Cond.instanceMethod ({ cls := "CurvePaths", name := "axes", desc := "(IIII)Z" }) ∈ gw := gw_in 259 rfl rfl
set_option maxRecDepth 20000 in
theorem gw_260 : Cond.selects "CurvePaths" ({ cls := "CurvePaths", name := "axes", desc := "(IIII)Z" }) ({ cls := "CurvePaths", name := "axes", desc := "(IIII)Z" }) ∈ gw := gw_in 260 rfl rfl
set_option maxRecDepth 20000 in
theorem gw_261 : Cond.code ({ cls := "CurvePaths", name := "axes", desc := "(IIII)Z" }) prog_1_method_6_code (5) (Option.some Jvm.ClassFile.FieldType.boolean) ∈ gw := gw_in 261 rfl rfl
set_option maxRecDepth 20000 in
theorem gw_262 : Cond.methodLink "CurvePaths" (85) ({ cls := "CurvePaths$Axes", name := "set", desc := "(IIII)V" }) ∈ gw := gw_in 262 rfl rfl
set_option maxRecDepth 20000 in
theorem gw_263 : Cond.instanceMethod ({ cls := "CurvePaths$Axes", name := "set", desc := "(IIII)V" }) ∈ gw := gw_in 263 rfl rfl
set_option maxRecDepth 20000 in
theorem gw_264 : Cond.selects "CurvePaths$Axes" ({ cls := "CurvePaths$Axes", name := "set", desc := "(IIII)V" }) ({ cls := "CurvePaths$Axes", name := "set", desc := "(IIII)V" }) ∈ gw := gw_in 264 rfl rfl
set_option maxRecDepth 20000 in
theorem gw_265 : Cond.code ({ cls := "CurvePaths$Axes", name := "set", desc := "(IIII)V" }) prog_3_method_2_code (5) (Option.none : Option Jvm.ClassFile.FieldType) ∈ gw := gw_in 265 rfl rfl
set_option maxRecDepth 20000 in
theorem gw_266 : Cond.methodLink "CurvePathsLaw" (37) ({ cls := "CurvePaths", name := "arc", desc := "(IIIII)I" }) ∈ gw := gw_in 266 rfl rfl
set_option maxRecDepth 20000 in
theorem gw_267 : Cond.instanceMethod ({ cls := "CurvePaths", name := "arc", desc := "(IIIII)I" }) ∈ gw := gw_in 267 rfl rfl
set_option maxRecDepth 20000 in
theorem gw_268 : Cond.selects "CurvePaths" ({ cls := "CurvePaths", name := "arc", desc := "(IIIII)I" }) ({ cls := "CurvePaths", name := "arc", desc := "(IIIII)I" }) ∈ gw := gw_in 268 rfl rfl
set_option maxRecDepth 20000 in
theorem gw_269 : Cond.code ({ cls := "CurvePaths", name := "arc", desc := "(IIIII)I" }) prog_1_method_7_code (8) (Option.some Jvm.ClassFile.FieldType.int) ∈ gw := gw_in 269 rfl rfl
set_option maxRecDepth 20000 in
theorem gw_270 : Cond.methodLink "CurvePaths" (89) ({ cls := "CurvePaths", name := "notBelow", desc := "(JJ)J" }) ∈ gw := gw_in 270 rfl rfl
set_option maxRecDepth 20000 in
theorem gw_271 : Cond.static ({ cls := "CurvePaths", name := "notBelow", desc := "(JJ)J" }) ∈ gw := gw_in 271 rfl rfl
set_option maxRecDepth 20000 in
theorem gw_272 : Cond.code ({ cls := "CurvePaths", name := "notBelow", desc := "(JJ)J" }) prog_1_method_20_code (4) (Option.some Jvm.ClassFile.FieldType.long) ∈ gw := gw_in 272 rfl rfl
set_option maxRecDepth 20000 in
theorem gw_273 : Cond.constantLong "CurvePaths" (192) (23592960 : Int64) ∈ gw := gw_in 273 rfl rfl
set_option maxRecDepth 20000 in
theorem gw_274 : Cond.methodLink "CurvePaths" (194) ({ cls := "java/lang/Math", name := "floorMod", desc := "(JJ)J" }) ∈ gw := gw_in 274 rfl rfl
set_option maxRecDepth 20000 in
theorem gw_275 : Cond.static ({ cls := "java/lang/Math", name := "floorMod", desc := "(JJ)J" }) ∈ gw := gw_in 275 rfl rfl
set_option maxRecDepth 20000 in
theorem gw_276 : Cond.code ({ cls := "java/lang/Math", name := "floorMod", desc := "(JJ)J" }) prog_10_method_52_code (6) (Option.some Jvm.ClassFile.FieldType.long) ∈ gw := gw_in 276 rfl rfl
set_option maxRecDepth 20000 in
theorem gw_277 : Cond.methodLink "CurvePaths" (93) ({ cls := "CurvePaths", name := "notAbove", desc := "(JJ)J" }) ∈ gw := gw_in 277 rfl rfl
set_option maxRecDepth 20000 in
theorem gw_278 : Cond.static ({ cls := "CurvePaths", name := "notAbove", desc := "(JJ)J" }) ∈ gw := gw_in 278 rfl rfl
set_option maxRecDepth 20000 in
theorem gw_279 : Cond.code ({ cls := "CurvePaths", name := "notAbove", desc := "(JJ)J" }) prog_1_method_21_code (4) (Option.some Jvm.ClassFile.FieldType.long) ∈ gw := gw_in 279 rfl rfl
set_option maxRecDepth 20000 in
theorem gw_280 : Cond.methodLink "CurvePaths" (96) ({ cls := "java/lang/Math", name := "abs", desc := "(J)J" }) ∈ gw := gw_in 280 rfl rfl
set_option maxRecDepth 20000 in
theorem gw_281 : Cond.static ({ cls := "java/lang/Math", name := "abs", desc := "(J)J" }) ∈ gw := gw_in 281 rfl rfl
set_option maxRecDepth 20000 in
theorem gw_282 : Cond.code ({ cls := "java/lang/Math", name := "abs", desc := "(J)J" }) prog_10_method_61_code (2) (Option.some Jvm.ClassFile.FieldType.long) ∈ gw := gw_in 282 rfl rfl
set_option maxRecDepth 20000 in
theorem gw_283 : Cond.constantLong "CurvePaths" (102) (235929600 : Int64) ∈ gw := gw_in 283 rfl rfl
set_option maxRecDepth 20000 in
theorem gw_284 : Cond.methodLink "CurvePaths" (104) ({ cls := "CurvePaths$Arc", name := "reckon", desc := "(JJ)V" }) ∈ gw := gw_in 284 rfl rfl
set_option maxRecDepth 20000 in
theorem gw_285 : Cond.instanceMethod ({ cls := "CurvePaths$Arc", name := "reckon", desc := "(JJ)V" }) ∈ gw := gw_in 285 rfl rfl
set_option maxRecDepth 20000 in
theorem gw_286 : Cond.selects "CurvePaths$Arc" ({ cls := "CurvePaths$Arc", name := "reckon", desc := "(JJ)V" }) ({ cls := "CurvePaths$Arc", name := "reckon", desc := "(JJ)V" }) ∈ gw := gw_in 286 rfl rfl
set_option maxRecDepth 20000 in
theorem gw_287 : Cond.code ({ cls := "CurvePaths$Arc", name := "reckon", desc := "(JJ)V" }) prog_2_method_3_code (16) (Option.none : Option Jvm.ClassFile.FieldType) ∈ gw := gw_in 287 rfl rfl
set_option maxRecDepth 20000 in
theorem gw_288 : Cond.constantLong "CurvePaths$Arc" (28) (5898240 : Int64) ∈ gw := gw_in 288 rfl rfl
set_option maxRecDepth 20000 in
theorem gw_289 : Cond.methodLink "CurvePaths$Arc" (30) ({ cls := "java/lang/Math", name := "floorDiv", desc := "(JJ)J" }) ∈ gw := gw_in 289 rfl rfl
set_option maxRecDepth 20000 in
theorem gw_290 : Cond.static ({ cls := "java/lang/Math", name := "floorDiv", desc := "(JJ)J" }) ∈ gw := gw_in 290 rfl rfl
set_option maxRecDepth 20000 in
theorem gw_291 : Cond.code ({ cls := "java/lang/Math", name := "floorDiv", desc := "(JJ)J" }) prog_10_method_49_code (6) (Option.some Jvm.ClassFile.FieldType.long) ∈ gw := gw_in 291 rfl rfl
set_option maxRecDepth 20000 in
theorem gw_292 : Cond.methodLink "CurvePaths$Arc" (36) ({ cls := "CurvePaths$Arc", name := "placeIn", desc := "(JJ)I" }) ∈ gw := gw_in 292 rfl rfl
set_option maxRecDepth 20000 in
theorem gw_293 : Cond.static ({ cls := "CurvePaths$Arc", name := "placeIn", desc := "(JJ)I" }) ∈ gw := gw_in 293 rfl rfl
set_option maxRecDepth 20000 in
theorem gw_294 : Cond.code ({ cls := "CurvePaths$Arc", name := "placeIn", desc := "(JJ)I" }) prog_2_method_7_code (4) (Option.some Jvm.ClassFile.FieldType.int) ∈ gw := gw_in 294 rfl rfl
set_option maxRecDepth 20000 in
theorem gw_295 : Cond.constantLong "CurvePaths$Arc" (83) (45 : Int64) ∈ gw := gw_in 295 rfl rfl
set_option maxRecDepth 20000 in
theorem gw_296 : Cond.constantLong "CurvePaths$Arc" (85) (90 : Int64) ∈ gw := gw_in 296 rfl rfl
set_option maxRecDepth 20000 in
theorem gw_297 : Cond.constant "CurvePaths$Arc" (40) (65536 : Int32) ∈ gw := gw_in 297 rfl rfl
set_option maxRecDepth 20000 in
theorem gw_298 : Cond.methodLink "CurvePaths$Arc" (41) ({ cls := "CurvePaths$Arc", name := "takePart", desc := "(JII)V" }) ∈ gw := gw_in 298 rfl rfl
set_option maxRecDepth 20000 in
theorem gw_300 : Cond.instanceMethod ({ cls := "CurvePaths$Arc", name := "takePart", desc := "(JII)V" }) ∈ gw := gw_in 300 rfl rfl
set_option maxRecDepth 20000 in
theorem gw_301 : Cond.code ({ cls := "CurvePaths$Arc", name := "takePart", desc := "(JII)V" }) prog_2_method_8_code (5) (Option.none : Option Jvm.ClassFile.FieldType) ∈ gw := gw_in 301 rfl rfl
set_option maxRecDepth 20000 in
theorem gw_302 : Cond.methodLink "CurvePaths$Arc" (48) ({ cls := "CurvePaths$Arc", name := "takeQuarter", desc := "(J)V" }) ∈ gw := gw_in 302 rfl rfl
set_option maxRecDepth 20000 in
theorem gw_304 : Cond.instanceMethod ({ cls := "CurvePaths$Arc", name := "takeQuarter", desc := "(J)V" }) ∈ gw := gw_in 304 rfl rfl
set_option maxRecDepth 20000 in
theorem gw_305 : Cond.code ({ cls := "CurvePaths$Arc", name := "takeQuarter", desc := "(J)V" }) prog_2_method_9_code (5) (Option.none : Option Jvm.ClassFile.FieldType) ∈ gw := gw_in 305 rfl rfl
set_option maxRecDepth 20000 in
theorem gw_308 : Cond.constantLong "CurvePaths$Arc" (97) (4 : Int64) ∈ gw := gw_in 308 rfl rfl
set_option maxRecDepth 20000 in
theorem gw_309 : Cond.methodLink "CurvePaths$Arc" (99) ({ cls := "java/lang/Math", name := "floorMod", desc := "(JJ)J" }) ∈ gw := gw_in 309 rfl rfl
set_option maxRecDepth 20000 in
theorem gw_310 : Cond.methodLink "CurvePaths$Arc" (102) ({ cls := "CurvePaths$Arc", name := "turnQuarter", desc := "()V" }) ∈ gw := gw_in 310 rfl rfl
set_option maxRecDepth 20000 in
theorem gw_312 : Cond.instanceMethod ({ cls := "CurvePaths$Arc", name := "turnQuarter", desc := "()V" }) ∈ gw := gw_in 312 rfl rfl
set_option maxRecDepth 20000 in
theorem gw_313 : Cond.code ({ cls := "CurvePaths$Arc", name := "turnQuarter", desc := "()V" }) prog_2_method_10_code (3) (Option.none : Option Jvm.ClassFile.FieldType) ∈ gw := gw_in 313 rfl rfl
set_option maxRecDepth 20000 in
theorem gw_314 : Cond.methodLink "CurvePaths$Arc" (87) ({ cls := "CurvePaths$Arc", name := "keepBefore", desc := "(I)V" }) ∈ gw := gw_in 314 rfl rfl
set_option maxRecDepth 20000 in
theorem gw_316 : Cond.instanceMethod ({ cls := "CurvePaths$Arc", name := "keepBefore", desc := "(I)V" }) ∈ gw := gw_in 316 rfl rfl
set_option maxRecDepth 20000 in
theorem gw_317 : Cond.code ({ cls := "CurvePaths$Arc", name := "keepBefore", desc := "(I)V" }) prog_2_method_11_code (4) (Option.none : Option Jvm.ClassFile.FieldType) ∈ gw := gw_in 317 rfl rfl
set_option maxRecDepth 20000 in
theorem gw_318 : Cond.methodLink "CurvePaths$Arc" (105) ({ cls := "CurvePaths$Arc", name := "mix", desc := "(III)I" }) ∈ gw := gw_in 318 rfl rfl
set_option maxRecDepth 20000 in
theorem gw_319 : Cond.static ({ cls := "CurvePaths$Arc", name := "mix", desc := "(III)I" }) ∈ gw := gw_in 319 rfl rfl
set_option maxRecDepth 20000 in
theorem gw_320 : Cond.code ({ cls := "CurvePaths$Arc", name := "mix", desc := "(III)I" }) prog_2_method_13_code (3) (Option.some Jvm.ClassFile.FieldType.int) ∈ gw := gw_in 320 rfl rfl
set_option maxRecDepth 20000 in
theorem gw_321 : Cond.constantLong "CurvePaths$Arc" (109) (32768 : Int64) ∈ gw := gw_in 321 rfl rfl
set_option maxRecDepth 20000 in
theorem gw_322 : Cond.constantLong "CurvePaths$Arc" (90) (131072 : Int64) ∈ gw := gw_in 322 rfl rfl
set_option maxRecDepth 20000 in
theorem gw_323 : Cond.constantLong "CurvePaths$Arc" (92) (2 : Int64) ∈ gw := gw_in 323 rfl rfl
set_option maxRecDepth 20000 in
theorem gw_324 : Cond.methodLink "CurvePaths$Arc" (52) ({ cls := "CurvePaths$Arc", name := "keepBehind", desc := "(I)V" }) ∈ gw := gw_in 324 rfl rfl
set_option maxRecDepth 20000 in
theorem gw_326 : Cond.instanceMethod ({ cls := "CurvePaths$Arc", name := "keepBehind", desc := "(I)V" }) ∈ gw := gw_in 326 rfl rfl
set_option maxRecDepth 20000 in
theorem gw_327 : Cond.code ({ cls := "CurvePaths$Arc", name := "keepBehind", desc := "(I)V" }) prog_2_method_12_code (4) (Option.none : Option Jvm.ClassFile.FieldType) ∈ gw := gw_in 327 rfl rfl
set_option maxRecDepth 20000 in
theorem gw_328 : Cond.methodLink "CurvePaths$Arc" (45) ({ cls := "CurvePaths$Arc", name := "addTaken", desc := "()V" }) ∈ gw := gw_in 328 rfl rfl
set_option maxRecDepth 20000 in
theorem gw_330 : Cond.instanceMethod ({ cls := "CurvePaths$Arc", name := "addTaken", desc := "()V" }) ∈ gw := gw_in 330 rfl rfl
set_option maxRecDepth 20000 in
theorem gw_331 : Cond.code ({ cls := "CurvePaths$Arc", name := "addTaken", desc := "()V" }) prog_2_method_14_code (2) (Option.none : Option Jvm.ClassFile.FieldType) ∈ gw := gw_in 331 rfl rfl
set_option maxRecDepth 20000 in
theorem gw_332 : Cond.methodLink "CurvePaths$Arc" (56) ({ cls := "CurvePaths$Arc", name := "addPoint", desc := "(II)V" }) ∈ gw := gw_in 332 rfl rfl
set_option maxRecDepth 20000 in
theorem gw_334 : Cond.instanceMethod ({ cls := "CurvePaths$Arc", name := "addPoint", desc := "(II)V" }) ∈ gw := gw_in 334 rfl rfl
set_option maxRecDepth 20000 in
theorem gw_335 : Cond.code ({ cls := "CurvePaths$Arc", name := "addPoint", desc := "(II)V" }) prog_2_method_15_code (3) (Option.none : Option Jvm.ClassFile.FieldType) ∈ gw := gw_in 335 rfl rfl
set_option maxRecDepth 20000 in
theorem gw_336 : Cond.methodLink "CurvePaths" (108) ({ cls := "CurvePaths$Arc", name := "turnRound", desc := "()V" }) ∈ gw := gw_in 336 rfl rfl
set_option maxRecDepth 20000 in
theorem gw_337 : Cond.instanceMethod ({ cls := "CurvePaths$Arc", name := "turnRound", desc := "()V" }) ∈ gw := gw_in 337 rfl rfl
set_option maxRecDepth 20000 in
theorem gw_338 : Cond.selects "CurvePaths$Arc" ({ cls := "CurvePaths$Arc", name := "turnRound", desc := "()V" }) ({ cls := "CurvePaths$Arc", name := "turnRound", desc := "()V" }) ∈ gw := gw_in 338 rfl rfl
set_option maxRecDepth 20000 in
theorem gw_339 : Cond.code ({ cls := "CurvePaths$Arc", name := "turnRound", desc := "()V" }) prog_2_method_4_code (1) (Option.none : Option Jvm.ClassFile.FieldType) ∈ gw := gw_in 339 rfl rfl
set_option maxRecDepth 20000 in
theorem gw_341 : Cond.static ({ cls := "CurvePaths", name := "turnRow", desc := "([III)V" }) ∈ gw := gw_in 341 rfl rfl
set_option maxRecDepth 20000 in
theorem gw_342 : Cond.code ({ cls := "CurvePaths", name := "turnRow", desc := "([III)V" }) prog_1_method_28_code (6) (Option.none : Option Jvm.ClassFile.FieldType) ∈ gw := gw_in 342 rfl rfl
set_option maxRecDepth 20000 in
theorem gw_343 : Cond.methodLink "CurvePaths" (111) ({ cls := "CurvePaths$Arc", name := "bringTo", desc := "(IILCurvePaths$Axes;)Z" }) ∈ gw := gw_in 343 rfl rfl
set_option maxRecDepth 20000 in
theorem gw_344 : Cond.instanceMethod ({ cls := "CurvePaths$Arc", name := "bringTo", desc := "(IILCurvePaths$Axes;)Z" }) ∈ gw := gw_in 344 rfl rfl
set_option maxRecDepth 20000 in
theorem gw_345 : Cond.selects "CurvePaths$Arc" ({ cls := "CurvePaths$Arc", name := "bringTo", desc := "(IILCurvePaths$Axes;)Z" }) ({ cls := "CurvePaths$Arc", name := "bringTo", desc := "(IILCurvePaths$Axes;)Z" }) ∈ gw := gw_in 345 rfl rfl
set_option maxRecDepth 20000 in
theorem gw_346 : Cond.code ({ cls := "CurvePaths$Arc", name := "bringTo", desc := "(IILCurvePaths$Axes;)Z" }) prog_2_method_5_code (9) (Option.some Jvm.ClassFile.FieldType.boolean) ∈ gw := gw_in 346 rfl rfl
set_option maxRecDepth 20000 in
theorem gw_347 : Cond.methodLink "CurvePaths$Arc" (64) ({ cls := "CurvePaths$Axes", name := "alongX", desc := "(II)J" }) ∈ gw := gw_in 347 rfl rfl
set_option maxRecDepth 20000 in
theorem gw_348 : Cond.instanceMethod ({ cls := "CurvePaths$Axes", name := "alongX", desc := "(II)J" }) ∈ gw := gw_in 348 rfl rfl
set_option maxRecDepth 20000 in
theorem gw_349 : Cond.selects "CurvePaths$Axes" ({ cls := "CurvePaths$Axes", name := "alongX", desc := "(II)J" }) ({ cls := "CurvePaths$Axes", name := "alongX", desc := "(II)J" }) ∈ gw := gw_in 349 rfl rfl
set_option maxRecDepth 20000 in
theorem gw_350 : Cond.code ({ cls := "CurvePaths$Axes", name := "alongX", desc := "(II)J" }) prog_3_method_3_code (3) (Option.some Jvm.ClassFile.FieldType.long) ∈ gw := gw_in 350 rfl rfl
set_option maxRecDepth 20000 in
theorem gw_351 : Cond.constantLong "CurvePaths$Axes" (24) (32768 : Int64) ∈ gw := gw_in 351 rfl rfl
set_option maxRecDepth 20000 in
theorem gw_352 : Cond.methodLink "CurvePaths$Arc" (70) ({ cls := "CurvePaths$Axes", name := "alongY", desc := "(II)J" }) ∈ gw := gw_in 352 rfl rfl
set_option maxRecDepth 20000 in
theorem gw_353 : Cond.instanceMethod ({ cls := "CurvePaths$Axes", name := "alongY", desc := "(II)J" }) ∈ gw := gw_in 353 rfl rfl
set_option maxRecDepth 20000 in
theorem gw_354 : Cond.selects "CurvePaths$Axes" ({ cls := "CurvePaths$Axes", name := "alongY", desc := "(II)J" }) ({ cls := "CurvePaths$Axes", name := "alongY", desc := "(II)J" }) ∈ gw := gw_in 354 rfl rfl
set_option maxRecDepth 20000 in
theorem gw_355 : Cond.code ({ cls := "CurvePaths$Axes", name := "alongY", desc := "(II)J" }) prog_3_method_4_code (3) (Option.some Jvm.ClassFile.FieldType.long) ∈ gw := gw_in 355 rfl rfl
set_option maxRecDepth 20000 in
theorem gw_357 : Cond.methodLink "CurvePaths" (115) ({ cls := "CurvePaths", name := "addSweep", desc := "()I" }) ∈ gw := gw_in 357 rfl rfl
set_option maxRecDepth 20000 in
theorem gw_359 : Cond.instanceMethod ({ cls := "CurvePaths", name := "addSweep", desc := "()I" }) ∈ gw := gw_in 359 rfl rfl
set_option maxRecDepth 20000 in
theorem gw_360 : Cond.code ({ cls := "CurvePaths", name := "addSweep", desc := "()I" }) prog_1_method_18_code (2) (Option.some Jvm.ClassFile.FieldType.int) ∈ gw := gw_in 360 rfl rfl
set_option maxRecDepth 20000 in
theorem gw_361 : Cond.methodLink "CurvePaths" (175) ({ cls := "CurvePaths$Arc", name := "curveCount", desc := "()I" }) ∈ gw := gw_in 361 rfl rfl
set_option maxRecDepth 20000 in
theorem gw_362 : Cond.instanceMethod ({ cls := "CurvePaths$Arc", name := "curveCount", desc := "()I" }) ∈ gw := gw_in 362 rfl rfl
set_option maxRecDepth 20000 in
theorem gw_363 : Cond.selects "CurvePaths$Arc" ({ cls := "CurvePaths$Arc", name := "curveCount", desc := "()I" }) ({ cls := "CurvePaths$Arc", name := "curveCount", desc := "()I" }) ∈ gw := gw_in 363 rfl rfl
set_option maxRecDepth 20000 in
theorem gw_364 : Cond.code ({ cls := "CurvePaths$Arc", name := "curveCount", desc := "()I" }) prog_2_method_2_code (1) (Option.some Jvm.ClassFile.FieldType.int) ∈ gw := gw_in 364 rfl rfl
set_option maxRecDepth 20000 in
theorem gw_365 : Cond.methodLink "CurvePaths" (180) ({ cls := "CurvePaths$Arc", name := "addCurvesTo", desc := "(LCurvePaths$Path;)V" }) ∈ gw := gw_in 365 rfl rfl
set_option maxRecDepth 20000 in
theorem gw_366 : Cond.instanceMethod ({ cls := "CurvePaths$Arc", name := "addCurvesTo", desc := "(LCurvePaths$Path;)V" }) ∈ gw := gw_in 366 rfl rfl
set_option maxRecDepth 20000 in
theorem gw_367 : Cond.selects "CurvePaths$Arc" ({ cls := "CurvePaths$Arc", name := "addCurvesTo", desc := "(LCurvePaths$Path;)V" }) ({ cls := "CurvePaths$Arc", name := "addCurvesTo", desc := "(LCurvePaths$Path;)V" }) ∈ gw := gw_in 367 rfl rfl
set_option maxRecDepth 20000 in
theorem gw_368 : Cond.code ({ cls := "CurvePaths$Arc", name := "addCurvesTo", desc := "(LCurvePaths$Path;)V" }) prog_2_method_6_code (3) (Option.none : Option Jvm.ClassFile.FieldType) ∈ gw := gw_in 368 rfl rfl
set_option maxRecDepth 20000 in
theorem gw_369 : Cond.methodLink "CurvePaths$Arc" (77) ({ cls := "CurvePaths$Path", name := "addCurve", desc := "(IIIIII)V" }) ∈ gw := gw_in 369 rfl rfl
set_option maxRecDepth 20000 in
theorem gw_370 : Cond.methodLink "CurvePathsLaw" (42) ({ cls := "CurvePaths", name := "shift", desc := "(II)I" }) ∈ gw := gw_in 370 rfl rfl
set_option maxRecDepth 20000 in
theorem gw_371 : Cond.instanceMethod ({ cls := "CurvePaths", name := "shift", desc := "(II)I" }) ∈ gw := gw_in 371 rfl rfl
set_option maxRecDepth 20000 in
theorem gw_372 : Cond.selects "CurvePaths" ({ cls := "CurvePaths", name := "shift", desc := "(II)I" }) ({ cls := "CurvePaths", name := "shift", desc := "(II)I" }) ∈ gw := gw_in 372 rfl rfl
set_option maxRecDepth 20000 in
theorem gw_373 : Cond.code ({ cls := "CurvePaths", name := "shift", desc := "(II)I" }) prog_1_method_8_code (3) (Option.some Jvm.ClassFile.FieldType.int) ∈ gw := gw_in 373 rfl rfl
set_option maxRecDepth 20000 in
theorem gw_374 : Cond.methodLink "CurvePaths" (126) ({ cls := "CurvePaths", name := "staysNear", desc := "([III)Z" }) ∈ gw := gw_in 374 rfl rfl
set_option maxRecDepth 20000 in
theorem gw_375 : Cond.static ({ cls := "CurvePaths", name := "staysNear", desc := "([III)Z" }) ∈ gw := gw_in 375 rfl rfl
set_option maxRecDepth 20000 in
theorem gw_376 : Cond.code ({ cls := "CurvePaths", name := "staysNear", desc := "([III)Z" }) prog_1_method_24_code (4) (Option.some Jvm.ClassFile.FieldType.boolean) ∈ gw := gw_in 376 rfl rfl
set_option maxRecDepth 20000 in
theorem gw_377 : Cond.methodLink "CurvePaths" (133) ({ cls := "CurvePaths", name := "addToAll", desc := "([III)V" }) ∈ gw := gw_in 377 rfl rfl
set_option maxRecDepth 20000 in
theorem gw_378 : Cond.static ({ cls := "CurvePaths", name := "addToAll", desc := "([III)V" }) ∈ gw := gw_in 378 rfl rfl
set_option maxRecDepth 20000 in
theorem gw_379 : Cond.code ({ cls := "CurvePaths", name := "addToAll", desc := "([III)V" }) prog_1_method_25_code (4) (Option.none : Option Jvm.ClassFile.FieldType) ∈ gw := gw_in 379 rfl rfl
set_option maxRecDepth 20000 in
theorem gw_380 : Cond.methodLink "CurvePathsLaw" (46) ({ cls := "CurvePaths", name := "reverse", desc := "()I" }) ∈ gw := gw_in 380 rfl rfl
set_option maxRecDepth 20000 in
theorem gw_381 : Cond.instanceMethod ({ cls := "CurvePaths", name := "reverse", desc := "()I" }) ∈ gw := gw_in 381 rfl rfl
set_option maxRecDepth 20000 in
theorem gw_382 : Cond.selects "CurvePaths" ({ cls := "CurvePaths", name := "reverse", desc := "()I" }) ({ cls := "CurvePaths", name := "reverse", desc := "()I" }) ∈ gw := gw_in 382 rfl rfl
set_option maxRecDepth 20000 in
theorem gw_383 : Cond.code ({ cls := "CurvePaths", name := "reverse", desc := "()I" }) prog_1_method_9_code (1) (Option.some Jvm.ClassFile.FieldType.int) ∈ gw := gw_in 383 rfl rfl
set_option maxRecDepth 20000 in
theorem gw_384 : Cond.methodLink "CurvePaths" (137) ({ cls := "CurvePaths$Path", name := "turnSubpaths", desc := "()V" }) ∈ gw := gw_in 384 rfl rfl
set_option maxRecDepth 20000 in
theorem gw_385 : Cond.instanceMethod ({ cls := "CurvePaths$Path", name := "turnSubpaths", desc := "()V" }) ∈ gw := gw_in 385 rfl rfl
set_option maxRecDepth 20000 in
theorem gw_386 : Cond.selects "CurvePaths$Path" ({ cls := "CurvePaths$Path", name := "turnSubpaths", desc := "()V" }) ({ cls := "CurvePaths$Path", name := "turnSubpaths", desc := "()V" }) ∈ gw := gw_in 386 rfl rfl
set_option maxRecDepth 20000 in
theorem gw_387 : Cond.code ({ cls := "CurvePaths$Path", name := "turnSubpaths", desc := "()V" }) prog_5_method_18_code (3) (Option.none : Option Jvm.ClassFile.FieldType) ∈ gw := gw_in 387 rfl rfl
set_option maxRecDepth 20000 in
theorem gw_388 : Cond.methodLink "CurvePaths$Path" (56) ({ cls := "CurvePaths$Path", name := "turnSubpath", desc := "(II)V" }) ∈ gw := gw_in 388 rfl rfl
set_option maxRecDepth 20000 in
theorem gw_390 : Cond.instanceMethod ({ cls := "CurvePaths$Path", name := "turnSubpath", desc := "(II)V" }) ∈ gw := gw_in 390 rfl rfl
set_option maxRecDepth 20000 in
theorem gw_391 : Cond.code ({ cls := "CurvePaths$Path", name := "turnSubpath", desc := "(II)V" }) prog_5_method_19_code (8) (Option.none : Option Jvm.ClassFile.FieldType) ∈ gw := gw_in 391 rfl rfl
set_option maxRecDepth 20000 in
theorem gw_392 : Cond.methodLink "CurvePaths$Path" (36) ({ cls := "CurvePaths$Path", name := "pointOf", desc := "(I)I" }) ∈ gw := gw_in 392 rfl rfl
set_option maxRecDepth 20000 in
theorem gw_393 : Cond.instanceMethod ({ cls := "CurvePaths$Path", name := "pointOf", desc := "(I)I" }) ∈ gw := gw_in 393 rfl rfl
set_option maxRecDepth 20000 in
theorem gw_394 : Cond.selects "CurvePaths$Path" ({ cls := "CurvePaths$Path", name := "pointOf", desc := "(I)I" }) ({ cls := "CurvePaths$Path", name := "pointOf", desc := "(I)I" }) ∈ gw := gw_in 394 rfl rfl
set_option maxRecDepth 20000 in
theorem gw_395 : Cond.code ({ cls := "CurvePaths$Path", name := "pointOf", desc := "(I)I" }) prog_5_method_8_code (2) (Option.some Jvm.ClassFile.FieldType.int) ∈ gw := gw_in 395 rfl rfl
set_option maxRecDepth 20000 in
theorem gw_397 : Cond.methodLink "CurvePathsLaw" (50) ({ cls := "CurvePaths", name := "flatten", desc := "(I)I" }) ∈ gw := gw_in 397 rfl rfl
set_option maxRecDepth 20000 in
theorem gw_398 : Cond.instanceMethod ({ cls := "CurvePaths", name := "flatten", desc := "(I)I" }) ∈ gw := gw_in 398 rfl rfl
set_option maxRecDepth 20000 in
theorem gw_399 : Cond.selects "CurvePaths" ({ cls := "CurvePaths", name := "flatten", desc := "(I)I" }) ({ cls := "CurvePaths", name := "flatten", desc := "(I)I" }) ∈ gw := gw_in 399 rfl rfl
set_option maxRecDepth 20000 in
theorem gw_400 : Cond.code ({ cls := "CurvePaths", name := "flatten", desc := "(I)I" }) prog_1_method_10_code (3) (Option.some Jvm.ClassFile.FieldType.int) ∈ gw := gw_in 400 rfl rfl
set_option maxRecDepth 20000 in
theorem gw_401 : Cond.constant "CurvePaths" (140) (6553600 : Int32) ∈ gw := gw_in 401 rfl rfl
set_option maxRecDepth 20000 in
theorem gw_402 : Cond.methodLink "CurvePaths" (141) ({ cls := "CurvePaths$Path", name := "makeEmpty", desc := "()V" }) ∈ gw := gw_in 402 rfl rfl
set_option maxRecDepth 20000 in
theorem gw_403 : Cond.instanceMethod ({ cls := "CurvePaths$Path", name := "makeEmpty", desc := "()V" }) ∈ gw := gw_in 403 rfl rfl
set_option maxRecDepth 20000 in
theorem gw_404 : Cond.selects "CurvePaths$Path" ({ cls := "CurvePaths$Path", name := "makeEmpty", desc := "()V" }) ({ cls := "CurvePaths$Path", name := "makeEmpty", desc := "()V" }) ∈ gw := gw_in 404 rfl rfl
set_option maxRecDepth 20000 in
theorem gw_405 : Cond.code ({ cls := "CurvePaths$Path", name := "makeEmpty", desc := "()V" }) prog_5_method_11_code (1) (Option.none : Option Jvm.ClassFile.FieldType) ∈ gw := gw_in 405 rfl rfl
set_option maxRecDepth 20000 in
theorem gw_406 : Cond.methodLink "CurvePaths" (144) ({ cls := "CurvePaths", name := "addFlattened", desc := "(II)Z" }) ∈ gw := gw_in 406 rfl rfl
set_option maxRecDepth 20000 in
theorem gw_408 : Cond.instanceMethod ({ cls := "CurvePaths", name := "addFlattened", desc := "(II)Z" }) ∈ gw := gw_in 408 rfl rfl
set_option maxRecDepth 20000 in
theorem gw_409 : Cond.code ({ cls := "CurvePaths", name := "addFlattened", desc := "(II)Z" }) prog_1_method_19_code (5) (Option.some Jvm.ClassFile.FieldType.boolean) ∈ gw := gw_in 409 rfl rfl
set_option maxRecDepth 20000 in
theorem gw_410 : Cond.methodLink "CurvePaths" (184) ({ cls := "CurvePaths$Halving", name := "take", desc := "(LCurvePaths$Path;I)V" }) ∈ gw := gw_in 410 rfl rfl
set_option maxRecDepth 20000 in
theorem gw_411 : Cond.instanceMethod ({ cls := "CurvePaths$Halving", name := "take", desc := "(LCurvePaths$Path;I)V" }) ∈ gw := gw_in 411 rfl rfl
set_option maxRecDepth 20000 in
theorem gw_412 : Cond.selects "CurvePaths$Halving" ({ cls := "CurvePaths$Halving", name := "take", desc := "(LCurvePaths$Path;I)V" }) ({ cls := "CurvePaths$Halving", name := "take", desc := "(LCurvePaths$Path;I)V" }) ∈ gw := gw_in 412 rfl rfl
set_option maxRecDepth 20000 in
theorem gw_413 : Cond.code ({ cls := "CurvePaths$Halving", name := "take", desc := "(LCurvePaths$Path;I)V" }) prog_4_method_2_code (5) (Option.none : Option Jvm.ClassFile.FieldType) ∈ gw := gw_in 413 rfl rfl
set_option maxRecDepth 20000 in
theorem gw_414 : Cond.methodLink "CurvePaths$Halving" (16) ({ cls := "java/lang/Math", name := "max", desc := "(II)I" }) ∈ gw := gw_in 414 rfl rfl
set_option maxRecDepth 20000 in
theorem gw_415 : Cond.methodLink "CurvePaths" (188) ({ cls := "CurvePaths$Halving", name := "addLinesTo", desc := "(LCurvePaths$Path;I)Z" }) ∈ gw := gw_in 415 rfl rfl
set_option maxRecDepth 20000 in
theorem gw_416 : Cond.instanceMethod ({ cls := "CurvePaths$Halving", name := "addLinesTo", desc := "(LCurvePaths$Path;I)Z" }) ∈ gw := gw_in 416 rfl rfl
set_option maxRecDepth 20000 in
theorem gw_417 : Cond.selects "CurvePaths$Halving" ({ cls := "CurvePaths$Halving", name := "addLinesTo", desc := "(LCurvePaths$Path;I)Z" }) ({ cls := "CurvePaths$Halving", name := "addLinesTo", desc := "(LCurvePaths$Path;I)Z" }) ∈ gw := gw_in 417 rfl rfl
set_option maxRecDepth 20000 in
theorem gw_418 : Cond.code ({ cls := "CurvePaths$Halving", name := "addLinesTo", desc := "(LCurvePaths$Path;I)Z" }) prog_4_method_3_code (6) (Option.some Jvm.ClassFile.FieldType.boolean) ∈ gw := gw_in 418 rfl rfl
set_option maxRecDepth 20000 in
theorem gw_419 : Cond.methodLink "CurvePaths$Halving" (34) ({ cls := "CurvePaths$Halving", name := "isFlat", desc := "(II)Z" }) ∈ gw := gw_in 419 rfl rfl
set_option maxRecDepth 20000 in
theorem gw_421 : Cond.instanceMethod ({ cls := "CurvePaths$Halving", name := "isFlat", desc := "(II)Z" }) ∈ gw := gw_in 421 rfl rfl
set_option maxRecDepth 20000 in
theorem gw_422 : Cond.code ({ cls := "CurvePaths$Halving", name := "isFlat", desc := "(II)Z" }) prog_4_method_4_code (4) (Option.some Jvm.ClassFile.FieldType.boolean) ∈ gw := gw_in 422 rfl rfl
set_option maxRecDepth 20000 in
theorem gw_423 : Cond.methodLink "CurvePaths$Halving" (50) ({ cls := "CurvePaths$Halving", name := "isFlatAlong", desc := "(II)Z" }) ∈ gw := gw_in 423 rfl rfl
set_option maxRecDepth 20000 in
theorem gw_425 : Cond.instanceMethod ({ cls := "CurvePaths$Halving", name := "isFlatAlong", desc := "(II)Z" }) ∈ gw := gw_in 425 rfl rfl
set_option maxRecDepth 20000 in
theorem gw_426 : Cond.code ({ cls := "CurvePaths$Halving", name := "isFlatAlong", desc := "(II)Z" }) prog_4_method_5_code (3) (Option.some Jvm.ClassFile.FieldType.boolean) ∈ gw := gw_in 426 rfl rfl
set_option maxRecDepth 20000 in
theorem gw_427 : Cond.methodLink "CurvePaths$Halving" (53) ({ cls := "CurvePaths$Halving", name := "isStraight", desc := "(II)Z" }) ∈ gw := gw_in 427 rfl rfl
set_option maxRecDepth 20000 in
theorem gw_429 : Cond.instanceMethod ({ cls := "CurvePaths$Halving", name := "isStraight", desc := "(II)Z" }) ∈ gw := gw_in 429 rfl rfl
set_option maxRecDepth 20000 in
theorem gw_430 : Cond.code ({ cls := "CurvePaths$Halving", name := "isStraight", desc := "(II)Z" }) prog_4_method_6_code (5) (Option.some Jvm.ClassFile.FieldType.boolean) ∈ gw := gw_in 430 rfl rfl
set_option maxRecDepth 20000 in
theorem gw_431 : Cond.constantLong "CurvePaths$Halving" (56) (2 : Int64) ∈ gw := gw_in 431 rfl rfl
set_option maxRecDepth 20000 in
theorem gw_432 : Cond.constantLong "CurvePaths$Halving" (58) (3 : Int64) ∈ gw := gw_in 432 rfl rfl
set_option maxRecDepth 20000 in
theorem gw_433 : Cond.methodLink "CurvePaths$Halving" (60) ({ cls := "java/lang/Math", name := "abs", desc := "(J)J" }) ∈ gw := gw_in 433 rfl rfl
set_option maxRecDepth 20000 in
theorem gw_434 : Cond.methodLink "CurvePaths$Halving" (38) ({ cls := "CurvePaths$Halving", name := "halve", desc := "(I)V" }) ∈ gw := gw_in 434 rfl rfl
set_option maxRecDepth 20000 in
theorem gw_436 : Cond.instanceMethod ({ cls := "CurvePaths$Halving", name := "halve", desc := "(I)V" }) ∈ gw := gw_in 436 rfl rfl
set_option maxRecDepth 20000 in
theorem gw_437 : Cond.code ({ cls := "CurvePaths$Halving", name := "halve", desc := "(I)V" }) prog_4_method_7_code (2) (Option.none : Option Jvm.ClassFile.FieldType) ∈ gw := gw_in 437 rfl rfl
set_option maxRecDepth 20000 in
theorem gw_438 : Cond.methodLink "CurvePaths$Halving" (64) ({ cls := "CurvePaths$Halving", name := "halveAlong", desc := "(I)V" }) ∈ gw := gw_in 438 rfl rfl
set_option maxRecDepth 20000 in
theorem gw_440 : Cond.instanceMethod ({ cls := "CurvePaths$Halving", name := "halveAlong", desc := "(I)V" }) ∈ gw := gw_in 440 rfl rfl
set_option maxRecDepth 20000 in
theorem gw_441 : Cond.code ({ cls := "CurvePaths$Halving", name := "halveAlong", desc := "(I)V" }) prog_4_method_8_code (10) (Option.none : Option Jvm.ClassFile.FieldType) ∈ gw := gw_in 441 rfl rfl
set_option maxRecDepth 20000 in
theorem gw_442 : Cond.methodLink "CurvePaths$Halving" (67) ({ cls := "CurvePaths$Halving", name := "setPiece", desc := "(IIIII)V" }) ∈ gw := gw_in 442 rfl rfl
set_option maxRecDepth 20000 in
theorem gw_444 : Cond.instanceMethod ({ cls := "CurvePaths$Halving", name := "setPiece", desc := "(IIIII)V" }) ∈ gw := gw_in 444 rfl rfl
set_option maxRecDepth 20000 in
theorem gw_445 : Cond.code ({ cls := "CurvePaths$Halving", name := "setPiece", desc := "(IIIII)V" }) prog_4_method_9_code (6) (Option.none : Option Jvm.ClassFile.FieldType) ∈ gw := gw_in 445 rfl rfl
set_option maxRecDepth 20000 in
theorem gw_446 : Cond.methodLink "CurvePaths$Halving" (42) ({ cls := "CurvePaths$Path", name := "takes", desc := "(I)Z" }) ∈ gw := gw_in 446 rfl rfl
set_option maxRecDepth 20000 in
theorem gw_447 : Cond.methodLink "CurvePaths$Halving" (46) ({ cls := "CurvePaths$Path", name := "addLine", desc := "(II)V" }) ∈ gw := gw_in 447 rfl rfl
set_option maxRecDepth 20000 in
theorem gw_448 : Cond.methodLink "CurvePathsLaw" (55) ({ cls := "CurvePaths", name := "clear", desc := "()I" }) ∈ gw := gw_in 448 rfl rfl
set_option maxRecDepth 20000 in
theorem gw_449 : Cond.instanceMethod ({ cls := "CurvePaths", name := "clear", desc := "()I" }) ∈ gw := gw_in 449 rfl rfl
set_option maxRecDepth 20000 in
theorem gw_450 : Cond.selects "CurvePaths" ({ cls := "CurvePaths", name := "clear", desc := "()I" }) ({ cls := "CurvePaths", name := "clear", desc := "()I" }) ∈ gw := gw_in 450 rfl rfl
set_option maxRecDepth 20000 in
theorem gw_451 : Cond.code ({ cls := "CurvePaths", name := "clear", desc := "()I" }) prog_1_method_11_code (2) (Option.some Jvm.ClassFile.FieldType.int) ∈ gw := gw_in 451 rfl rfl
set_option maxRecDepth 20000 in
theorem gw_452 : Cond.methodLink "CurvePathsLaw" (59) ({ cls := "CurvePaths", name := "parts", desc := "()I" }) ∈ gw := gw_in 452 rfl rfl
set_option maxRecDepth 20000 in
theorem gw_453 : Cond.instanceMethod ({ cls := "CurvePaths", name := "parts", desc := "()I" }) ∈ gw := gw_in 453 rfl rfl
set_option maxRecDepth 20000 in
theorem gw_454 : Cond.selects "CurvePaths" ({ cls := "CurvePaths", name := "parts", desc := "()I" }) ({ cls := "CurvePaths", name := "parts", desc := "()I" }) ∈ gw := gw_in 454 rfl rfl
set_option maxRecDepth 20000 in
theorem gw_455 : Cond.code ({ cls := "CurvePaths", name := "parts", desc := "()I" }) prog_1_method_12_code (1) (Option.some Jvm.ClassFile.FieldType.int) ∈ gw := gw_in 455 rfl rfl
set_option maxRecDepth 20000 in
theorem gw_456 : Cond.methodLink "CurvePathsLaw" (63) ({ cls := "CurvePaths", name := "kind", desc := "(I)I" }) ∈ gw := gw_in 456 rfl rfl
set_option maxRecDepth 20000 in
theorem gw_457 : Cond.instanceMethod ({ cls := "CurvePaths", name := "kind", desc := "(I)I" }) ∈ gw := gw_in 457 rfl rfl
set_option maxRecDepth 20000 in
theorem gw_458 : Cond.selects "CurvePaths" ({ cls := "CurvePaths", name := "kind", desc := "(I)I" }) ({ cls := "CurvePaths", name := "kind", desc := "(I)I" }) ∈ gw := gw_in 458 rfl rfl
set_option maxRecDepth 20000 in
theorem gw_459 : Cond.code ({ cls := "CurvePaths", name := "kind", desc := "(I)I" }) prog_1_method_13_code (2) (Option.some Jvm.ClassFile.FieldType.int) ∈ gw := gw_in 459 rfl rfl
set_option maxRecDepth 20000 in
theorem gw_460 : Cond.methodLink "CurvePaths" (148) ({ cls := "CurvePaths$Path", name := "hasPart", desc := "(I)Z" }) ∈ gw := gw_in 460 rfl rfl
set_option maxRecDepth 20000 in
theorem gw_461 : Cond.instanceMethod ({ cls := "CurvePaths$Path", name := "hasPart", desc := "(I)Z" }) ∈ gw := gw_in 461 rfl rfl
set_option maxRecDepth 20000 in
theorem gw_462 : Cond.selects "CurvePaths$Path" ({ cls := "CurvePaths$Path", name := "hasPart", desc := "(I)Z" }) ({ cls := "CurvePaths$Path", name := "hasPart", desc := "(I)Z" }) ∈ gw := gw_in 462 rfl rfl
set_option maxRecDepth 20000 in
theorem gw_463 : Cond.code ({ cls := "CurvePaths$Path", name := "hasPart", desc := "(I)Z" }) prog_5_method_3_code (2) (Option.some Jvm.ClassFile.FieldType.boolean) ∈ gw := gw_in 463 rfl rfl
set_option maxRecDepth 20000 in
theorem gw_464 : Cond.methodLink "CurvePathsLaw" (67) ({ cls := "CurvePaths", name := "place", desc := "(II)I" }) ∈ gw := gw_in 464 rfl rfl
set_option maxRecDepth 20000 in
theorem gw_465 : Cond.instanceMethod ({ cls := "CurvePaths", name := "place", desc := "(II)I" }) ∈ gw := gw_in 465 rfl rfl
set_option maxRecDepth 20000 in
theorem gw_466 : Cond.selects "CurvePaths" ({ cls := "CurvePaths", name := "place", desc := "(II)I" }) ({ cls := "CurvePaths", name := "place", desc := "(II)I" }) ∈ gw := gw_in 466 rfl rfl
set_option maxRecDepth 20000 in
theorem gw_467 : Cond.code ({ cls := "CurvePaths", name := "place", desc := "(II)I" }) prog_1_method_14_code (3) (Option.some Jvm.ClassFile.FieldType.int) ∈ gw := gw_in 467 rfl rfl
set_option maxRecDepth 20000 in
theorem gw_468 : Cond.methodLink "CurvePaths" (154) ({ cls := "CurvePaths$Path", name := "pointOf", desc := "(I)I" }) ∈ gw := gw_in 468 rfl rfl
set_option maxRecDepth 20000 in
theorem gw_469 : Cond.methodLink "CurvePaths" (158) ({ cls := "CurvePaths$Path", name := "coordinate", desc := "(II)I" }) ∈ gw := gw_in 469 rfl rfl
set_option maxRecDepth 20000 in
theorem gw_470 : Cond.instanceMethod ({ cls := "CurvePaths$Path", name := "coordinate", desc := "(II)I" }) ∈ gw := gw_in 470 rfl rfl
set_option maxRecDepth 20000 in
theorem gw_471 : Cond.selects "CurvePaths$Path" ({ cls := "CurvePaths$Path", name := "coordinate", desc := "(II)I" }) ({ cls := "CurvePaths$Path", name := "coordinate", desc := "(II)I" }) ∈ gw := gw_in 471 rfl rfl
set_option maxRecDepth 20000 in
theorem gw_472 : Cond.code ({ cls := "CurvePaths$Path", name := "coordinate", desc := "(II)I" }) prog_5_method_10_code (3) (Option.some Jvm.ClassFile.FieldType.int) ∈ gw := gw_in 472 rfl rfl
set_option maxRecDepth 20000 in
theorem gw_473 : Cond.methodLink "CurvePathsLaw" (71) ({ cls := "CurvePaths", name := "point", desc := "(I)I" }) ∈ gw := gw_in 473 rfl rfl
set_option maxRecDepth 20000 in
theorem gw_474 : Cond.instanceMethod ({ cls := "CurvePaths", name := "point", desc := "(I)I" }) ∈ gw := gw_in 474 rfl rfl
set_option maxRecDepth 20000 in
theorem gw_475 : Cond.selects "CurvePaths" ({ cls := "CurvePaths", name := "point", desc := "(I)I" }) ({ cls := "CurvePaths", name := "point", desc := "(I)I" }) ∈ gw := gw_in 475 rfl rfl
set_option maxRecDepth 20000 in
theorem gw_476 : Cond.code ({ cls := "CurvePaths", name := "point", desc := "(I)I" }) prog_1_method_15_code (2) (Option.some Jvm.ClassFile.FieldType.int) ∈ gw := gw_in 476 rfl rfl
set_option maxRecDepth 20000 in
theorem gw_477 : Cond.methodLink "CurvePaths" (165) ({ cls := "CurvePaths$Path", name := "latestPoint", desc := "()I" }) ∈ gw := gw_in 477 rfl rfl
set_option maxRecDepth 20000 in
theorem gw_478 : Cond.instanceMethod ({ cls := "CurvePaths$Path", name := "latestPoint", desc := "()I" }) ∈ gw := gw_in 478 rfl rfl
set_option maxRecDepth 20000 in
theorem gw_479 : Cond.selects "CurvePaths$Path" ({ cls := "CurvePaths$Path", name := "latestPoint", desc := "()I" }) ({ cls := "CurvePaths$Path", name := "latestPoint", desc := "()I" }) ∈ gw := gw_in 479 rfl rfl
set_option maxRecDepth 20000 in
theorem gw_480 : Cond.code ({ cls := "CurvePaths$Path", name := "latestPoint", desc := "()I" }) prog_5_method_9_code (1) (Option.some Jvm.ClassFile.FieldType.int) ∈ gw := gw_in 480 rfl rfl
set_option maxRecDepth 20000 in
theorem gw_481 : Cond.methodLink "CurvePathsLaw" (75) ({ cls := "CurvePaths", name := "isPoint", desc := "()Z" }) ∈ gw := gw_in 481 rfl rfl
set_option maxRecDepth 20000 in
theorem gw_482 : Cond.instanceMethod ({ cls := "CurvePaths", name := "isPoint", desc := "()Z" }) ∈ gw := gw_in 482 rfl rfl
set_option maxRecDepth 20000 in
theorem gw_483 : Cond.selects "CurvePaths" ({ cls := "CurvePaths", name := "isPoint", desc := "()Z" }) ({ cls := "CurvePaths", name := "isPoint", desc := "()Z" }) ∈ gw := gw_in 483 rfl rfl
set_option maxRecDepth 20000 in
theorem gw_484 : Cond.code ({ cls := "CurvePaths", name := "isPoint", desc := "()Z" }) prog_1_method_16_code (1) (Option.some Jvm.ClassFile.FieldType.boolean) ∈ gw := gw_in 484 rfl rfl
set_option maxRecDepth 20000 in
theorem gw_485 : Cond.methodLink "CurvePathsLaw" (80) ({ cls := "CurvePaths", name := "bound", desc := "(I)I" }) ∈ gw := gw_in 485 rfl rfl
set_option maxRecDepth 20000 in
theorem gw_486 : Cond.instanceMethod ({ cls := "CurvePaths", name := "bound", desc := "(I)I" }) ∈ gw := gw_in 486 rfl rfl
set_option maxRecDepth 20000 in
theorem gw_487 : Cond.selects "CurvePaths" ({ cls := "CurvePaths", name := "bound", desc := "(I)I" }) ({ cls := "CurvePaths", name := "bound", desc := "(I)I" }) ∈ gw := gw_in 487 rfl rfl
set_option maxRecDepth 20000 in
theorem gw_488 : Cond.code ({ cls := "CurvePaths", name := "bound", desc := "(I)I" }) prog_1_method_17_code (2) (Option.some Jvm.ClassFile.FieldType.int) ∈ gw := gw_in 488 rfl rfl
set_option maxRecDepth 20000 in
theorem gw_489 : Cond.methodLink "CurvePaths" (168) ({ cls := "CurvePaths", name := "least", desc := "([II)I" }) ∈ gw := gw_in 489 rfl rfl
set_option maxRecDepth 20000 in
theorem gw_490 : Cond.static ({ cls := "CurvePaths", name := "least", desc := "([II)I" }) ∈ gw := gw_in 490 rfl rfl
set_option maxRecDepth 20000 in
theorem gw_491 : Cond.code ({ cls := "CurvePaths", name := "least", desc := "([II)I" }) prog_1_method_26_code (4) (Option.some Jvm.ClassFile.FieldType.int) ∈ gw := gw_in 491 rfl rfl
set_option maxRecDepth 20000 in
theorem gw_492 : Cond.methodLink "CurvePaths" (172) ({ cls := "CurvePaths", name := "greatest", desc := "([II)I" }) ∈ gw := gw_in 492 rfl rfl
set_option maxRecDepth 20000 in
theorem gw_493 : Cond.static ({ cls := "CurvePaths", name := "greatest", desc := "([II)I" }) ∈ gw := gw_in 493 rfl rfl
set_option maxRecDepth 20000 in
theorem gw_494 : Cond.code ({ cls := "CurvePaths", name := "greatest", desc := "([II)I" }) prog_1_method_27_code (4) (Option.some Jvm.ClassFile.FieldType.int) ∈ gw := gw_in 494 rfl rfl
set_option maxRecDepth 20000 in
theorem gw_495 : Cond.classLink "CurvePathsLaw" (10) "CurvePathsModel" ∈ gw := gw_in 495 rfl rfl
set_option maxRecDepth 20000 in
theorem gw_496 : Cond.instantiable "CurvePathsModel" (7) ∈ gw := gw_in 496 rfl rfl
set_option maxRecDepth 20000 in
theorem gw_497 : Cond.methodLink "CurvePathsLaw" (12) ({ cls := "CurvePathsModel", name := "<init>", desc := "()V" }) ∈ gw := gw_in 497 rfl rfl
set_option maxRecDepth 20000 in
theorem gw_498 : Cond.instanceMethod ({ cls := "CurvePathsModel", name := "<init>", desc := "()V" }) ∈ gw := gw_in 498 rfl rfl
set_option maxRecDepth 20000 in
theorem gw_499 : Cond.code ({ cls := "CurvePathsModel", name := "<init>", desc := "()V" }) prog_7_method_1_code (1) (Option.none : Option Jvm.ClassFile.FieldType) ∈ gw := gw_in 499 rfl rfl
set_option maxRecDepth 20000 in
theorem gw_500 : Cond.methodLink "CurvePathsModel" (1) ({ cls := "java/lang/Object", name := "<init>", desc := "()V" }) ∈ gw := gw_in 500 rfl rfl
set_option maxRecDepth 20000 in
theorem gw_501 : Cond.classLink "CurvePathsModel" (7) "CurvePathsModel$Path" ∈ gw := gw_in 501 rfl rfl
set_option maxRecDepth 20000 in
theorem gw_502 : Cond.instantiable "CurvePathsModel$Path" (5) ∈ gw := gw_in 502 rfl rfl
set_option maxRecDepth 20000 in
theorem gw_504 : Cond.instanceMethod ({ cls := "CurvePathsModel$Path", name := "<init>", desc := "()V" }) ∈ gw := gw_in 504 rfl rfl
set_option maxRecDepth 20000 in
theorem gw_505 : Cond.code ({ cls := "CurvePathsModel$Path", name := "<init>", desc := "()V" }) prog_8_method_1_code (1) (Option.none : Option Jvm.ClassFile.FieldType) ∈ gw := gw_in 505 rfl rfl
set_option maxRecDepth 20000 in
theorem gw_506 : Cond.methodLink "CurvePathsModel$Path" (3) ({ cls := "java/lang/Object", name := "<init>", desc := "()V" }) ∈ gw := gw_in 506 rfl rfl
set_option maxRecDepth 20000 in
theorem gw_507 : Cond.fieldLink "CurvePathsModel$Path" (9) "CurvePathsModel$Path" "kinds" "[B" ∈ gw := gw_in 507 rfl rfl
set_option maxRecDepth 20000 in
theorem gw_509 : Cond.fieldLink "CurvePathsModel$Path" (15) "CurvePathsModel$Path" "places" "[I" ∈ gw := gw_in 509 rfl rfl
set_option maxRecDepth 20000 in
theorem gw_510 : Cond.fieldLink "CurvePathsModel$Path" (19) "CurvePathsModel$Path" "size" "I" ∈ gw := gw_in 510 rfl rfl
set_option maxRecDepth 20000 in
theorem gw_512 : Cond.fieldLink "CurvePathsModel$Path" (23) "CurvePathsModel$Path" "full" "Z" ∈ gw := gw_in 512 rfl rfl
set_option maxRecDepth 20000 in
theorem gw_515 : Cond.fieldLink "CurvePathsModel$Path" (27) "CurvePathsModel$Path" "far" "Z" ∈ gw := gw_in 515 rfl rfl
set_option maxRecDepth 20000 in
theorem gw_527 : Cond.arrayClass Jvm.ClassFile.FieldType.byte ∈ gw := gw_in 527 rfl rfl
set_option maxRecDepth 20000 in
theorem gw_528 : Cond.fieldLink "CurvePathsModel" (10) "CurvePathsModel" "path" "LCurvePathsModel$Path;" ∈ gw := gw_in 528 rfl rfl
set_option maxRecDepth 20000 in
theorem gw_529 : Cond.fieldLink "CurvePathsModel" (16) "CurvePathsModel" "draft" "LCurvePathsModel$Path;" ∈ gw := gw_in 529 rfl rfl
set_option maxRecDepth 20000 in
theorem gw_530 : Cond.fieldLink "CurvePathsModel" (19) "CurvePathsModel" "axes" "[J" ∈ gw := gw_in 530 rfl rfl
set_option maxRecDepth 20000 in
theorem gw_531 : Cond.fieldLink "CurvePathsModel" (23) "CurvePathsModel" "unit" "[J" ∈ gw := gw_in 531 rfl rfl
set_option maxRecDepth 20000 in
theorem gw_532 : Cond.fieldLink "CurvePathsModel" (26) "CurvePathsModel" "before" "[J" ∈ gw := gw_in 532 rfl rfl
set_option maxRecDepth 20000 in
theorem gw_533 : Cond.fieldLink "CurvePathsModel" (29) "CurvePathsModel" "behind" "[J" ∈ gw := gw_in 533 rfl rfl
set_option maxRecDepth 20000 in
theorem gw_534 : Cond.fieldLink "CurvePathsModel" (32) "CurvePathsModel" "mixed" "[J" ∈ gw := gw_in 534 rfl rfl
set_option maxRecDepth 20000 in
theorem gw_550 : Cond.arrayClass Jvm.ClassFile.FieldType.long ∈ gw := gw_in 550 rfl rfl
set_option maxRecDepth 20000 in
theorem gw_551 : Cond.methodLink "CurvePathsLaw" (79) ({ cls := "CurvePathsModel", name := "isPoint", desc := "()Z" }) ∈ gw := gw_in 551 rfl rfl
set_option maxRecDepth 20000 in
theorem gw_552 : Cond.instanceMethod ({ cls := "CurvePathsModel", name := "isPoint", desc := "()Z" }) ∈ gw := gw_in 552 rfl rfl
set_option maxRecDepth 20000 in
theorem gw_553 : Cond.selects "CurvePathsModel" ({ cls := "CurvePathsModel", name := "isPoint", desc := "()Z" }) ({ cls := "CurvePathsModel", name := "isPoint", desc := "()Z" }) ∈ gw := gw_in 553 rfl rfl
set_option maxRecDepth 20000 in
theorem gw_554 : Cond.code ({ cls := "CurvePathsModel", name := "isPoint", desc := "()Z" }) prog_7_method_3_code (1) (Option.some Jvm.ClassFile.FieldType.boolean) ∈ gw := gw_in 554 rfl rfl
set_option maxRecDepth 20000 in
theorem gw_555 : Cond.methodLink "CurvePathsLaw" (74) ({ cls := "CurvePathsModel", name := "point", desc := "(I)I" }) ∈ gw := gw_in 555 rfl rfl
set_option maxRecDepth 20000 in
theorem gw_556 : Cond.instanceMethod ({ cls := "CurvePathsModel", name := "point", desc := "(I)I" }) ∈ gw := gw_in 556 rfl rfl
set_option maxRecDepth 20000 in
theorem gw_557 : Cond.selects "CurvePathsModel" ({ cls := "CurvePathsModel", name := "point", desc := "(I)I" }) ({ cls := "CurvePathsModel", name := "point", desc := "(I)I" }) ∈ gw := gw_in 557 rfl rfl
set_option maxRecDepth 20000 in
theorem gw_558 : Cond.code ({ cls := "CurvePathsModel", name := "point", desc := "(I)I" }) prog_7_method_4_code (2) (Option.some Jvm.ClassFile.FieldType.int) ∈ gw := gw_in 558 rfl rfl
set_option maxRecDepth 20000 in
theorem gw_559 : Cond.methodLink "CurvePathsModel" (46) ({ cls := "CurvePathsModel$Path", name := "get", desc := "(II)I" }) ∈ gw := gw_in 559 rfl rfl
set_option maxRecDepth 20000 in
theorem gw_560 : Cond.instanceMethod ({ cls := "CurvePathsModel$Path", name := "get", desc := "(II)I" }) ∈ gw := gw_in 560 rfl rfl
set_option maxRecDepth 20000 in
theorem gw_561 : Cond.selects "CurvePathsModel$Path" ({ cls := "CurvePathsModel$Path", name := "get", desc := "(II)I" }) ({ cls := "CurvePathsModel$Path", name := "get", desc := "(II)I" }) ∈ gw := gw_in 561 rfl rfl
set_option maxRecDepth 20000 in
theorem gw_562 : Cond.code ({ cls := "CurvePathsModel$Path", name := "get", desc := "(II)I" }) prog_8_method_4_code (3) (Option.some Jvm.ClassFile.FieldType.int) ∈ gw := gw_in 562 rfl rfl
set_option maxRecDepth 20000 in
theorem gw_563 : Cond.methodLink "CurvePathsLaw" (17) ({ cls := "CurvePathsModel", name := "move", desc := "(II)I" }) ∈ gw := gw_in 563 rfl rfl
set_option maxRecDepth 20000 in
theorem gw_564 : Cond.instanceMethod ({ cls := "CurvePathsModel", name := "move", desc := "(II)I" }) ∈ gw := gw_in 564 rfl rfl
set_option maxRecDepth 20000 in
theorem gw_565 : Cond.selects "CurvePathsModel" ({ cls := "CurvePathsModel", name := "move", desc := "(II)I" }) ({ cls := "CurvePathsModel", name := "move", desc := "(II)I" }) ∈ gw := gw_in 565 rfl rfl
set_option maxRecDepth 20000 in
theorem gw_566 : Cond.code ({ cls := "CurvePathsModel", name := "move", desc := "(II)I" }) prog_7_method_5_code (3) (Option.some Jvm.ClassFile.FieldType.int) ∈ gw := gw_in 566 rfl rfl
set_option maxRecDepth 20000 in
theorem gw_567 : Cond.methodLink "CurvePathsModel" (50) ({ cls := "CurvePathsModel$Path", name := "copy", desc := "(LCurvePathsModel$Path;)V" }) ∈ gw := gw_in 567 rfl rfl
set_option maxRecDepth 20000 in
theorem gw_568 : Cond.instanceMethod ({ cls := "CurvePathsModel$Path", name := "copy", desc := "(LCurvePathsModel$Path;)V" }) ∈ gw := gw_in 568 rfl rfl
set_option maxRecDepth 20000 in
theorem gw_569 : Cond.selects "CurvePathsModel$Path" ({ cls := "CurvePathsModel$Path", name := "copy", desc := "(LCurvePathsModel$Path;)V" }) ({ cls := "CurvePathsModel$Path", name := "copy", desc := "(LCurvePathsModel$Path;)V" }) ∈ gw := gw_in 569 rfl rfl
set_option maxRecDepth 20000 in
theorem gw_570 : Cond.code ({ cls := "CurvePathsModel$Path", name := "copy", desc := "(LCurvePathsModel$Path;)V" }) prog_8_method_3_code (3) (Option.none : Option Jvm.ClassFile.FieldType) ∈ gw := gw_in 570 rfl rfl
set_option maxRecDepth 20000 in
theorem gw_571 : Cond.methodLink "CurvePathsModel$Path" (30) ({ cls := "CurvePathsModel$Path", name := "empty", desc := "()V" }) ∈ gw := gw_in 571 rfl rfl
set_option maxRecDepth 20000 in
theorem gw_572 : Cond.instanceMethod ({ cls := "CurvePathsModel$Path", name := "empty", desc := "()V" }) ∈ gw := gw_in 572 rfl rfl
set_option maxRecDepth 20000 in
theorem gw_573 : Cond.selects "CurvePathsModel$Path" ({ cls := "CurvePathsModel$Path", name := "empty", desc := "()V" }) ({ cls := "CurvePathsModel$Path", name := "empty", desc := "()V" }) ∈ gw := gw_in 573 rfl rfl
set_option maxRecDepth 20000 in
theorem gw_574 : Cond.code ({ cls := "CurvePathsModel$Path", name := "empty", desc := "()V" }) prog_8_method_2_code (1) (Option.none : Option Jvm.ClassFile.FieldType) ∈ gw := gw_in 574 rfl rfl
set_option maxRecDepth 20000 in
theorem gw_575 : Cond.methodLink "CurvePathsModel" (54) ({ cls := "CurvePathsModel$Path", name := "begin", desc := "(JJ)V" }) ∈ gw := gw_in 575 rfl rfl
set_option maxRecDepth 20000 in
theorem gw_576 : Cond.instanceMethod ({ cls := "CurvePathsModel$Path", name := "begin", desc := "(JJ)V" }) ∈ gw := gw_in 576 rfl rfl
set_option maxRecDepth 20000 in
theorem gw_577 : Cond.selects "CurvePathsModel$Path" ({ cls := "CurvePathsModel$Path", name := "begin", desc := "(JJ)V" }) ({ cls := "CurvePathsModel$Path", name := "begin", desc := "(JJ)V" }) ∈ gw := gw_in 577 rfl rfl
set_option maxRecDepth 20000 in
theorem gw_578 : Cond.code ({ cls := "CurvePathsModel$Path", name := "begin", desc := "(JJ)V" }) prog_8_method_10_code (5) (Option.none : Option Jvm.ClassFile.FieldType) ∈ gw := gw_in 578 rfl rfl
set_option maxRecDepth 20000 in
theorem gw_579 : Cond.methodLink "CurvePathsModel$Path" (49) ({ cls := "CurvePathsModel$Path", name := "addPoint", desc := "(IJJ)V" }) ∈ gw := gw_in 579 rfl rfl
set_option maxRecDepth 20000 in
theorem gw_580 : Cond.instanceMethod ({ cls := "CurvePathsModel$Path", name := "addPoint", desc := "(IJJ)V" }) ∈ gw := gw_in 580 rfl rfl
set_option maxRecDepth 20000 in
theorem gw_581 : Cond.selects "CurvePathsModel$Path" ({ cls := "CurvePathsModel$Path", name := "addPoint", desc := "(IJJ)V" }) ({ cls := "CurvePathsModel$Path", name := "addPoint", desc := "(IJJ)V" }) ∈ gw := gw_in 581 rfl rfl
set_option maxRecDepth 20000 in
theorem gw_582 : Cond.code ({ cls := "CurvePathsModel$Path", name := "addPoint", desc := "(IJJ)V" }) prog_8_method_7_code (6) (Option.none : Option Jvm.ClassFile.FieldType) ∈ gw := gw_in 582 rfl rfl
set_option maxRecDepth 20000 in
theorem gw_583 : Cond.methodLink "CurvePathsModel$Path" (41) ({ cls := "CurvePathsModel$Path", name := "add", desc := "(IJJJJJJ)V" }) ∈ gw := gw_in 583 rfl rfl
set_option maxRecDepth 20000 in
theorem gw_584 : Cond.instanceMethod ({ cls := "CurvePathsModel$Path", name := "add", desc := "(IJJJJJJ)V" }) ∈ gw := gw_in 584 rfl rfl
set_option maxRecDepth 20000 in
theorem gw_585 : Cond.selects "CurvePathsModel$Path" ({ cls := "CurvePathsModel$Path", name := "add", desc := "(IJJJJJJ)V" }) ({ cls := "CurvePathsModel$Path", name := "add", desc := "(IJJJJJJ)V" }) ∈ gw := gw_in 585 rfl rfl
set_option maxRecDepth 20000 in
theorem gw_586 : Cond.code ({ cls := "CurvePathsModel$Path", name := "add", desc := "(IJJJJJJ)V" }) prog_8_method_6_code (14) (Option.none : Option Jvm.ClassFile.FieldType) ∈ gw := gw_in 586 rfl rfl
set_option maxRecDepth 20000 in
theorem gw_587 : Cond.methodLink "CurvePathsModel$Path" (37) ({ cls := "CurvePathsModel$Path", name := "isFar", desc := "(J)Z" }) ∈ gw := gw_in 587 rfl rfl
set_option maxRecDepth 20000 in
theorem gw_588 : Cond.static ({ cls := "CurvePathsModel$Path", name := "isFar", desc := "(J)Z" }) ∈ gw := gw_in 588 rfl rfl
set_option maxRecDepth 20000 in
theorem gw_589 : Cond.code ({ cls := "CurvePathsModel$Path", name := "isFar", desc := "(J)Z" }) prog_8_method_5_code (2) (Option.some Jvm.ClassFile.FieldType.boolean) ∈ gw := gw_in 589 rfl rfl
set_option maxRecDepth 20000 in
theorem gw_590 : Cond.constantLong "CurvePathsModel$Path" (33) (-536870912 : Int64) ∈ gw := gw_in 590 rfl rfl
set_option maxRecDepth 20000 in
theorem gw_591 : Cond.constantLong "CurvePathsModel$Path" (35) (536870912 : Int64) ∈ gw := gw_in 591 rfl rfl
set_option maxRecDepth 20000 in
theorem gw_592 : Cond.methodLink "CurvePathsModel" (58) ({ cls := "CurvePathsModel", name := "settle", desc := "()I" }) ∈ gw := gw_in 592 rfl rfl
set_option maxRecDepth 20000 in
theorem gw_594 : Cond.instanceMethod ({ cls := "CurvePathsModel", name := "settle", desc := "()I" }) ∈ gw := gw_in 594 rfl rfl
set_option maxRecDepth 20000 in
theorem gw_595 : Cond.code ({ cls := "CurvePathsModel", name := "settle", desc := "()I" }) prog_7_method_2_code (2) (Option.some Jvm.ClassFile.FieldType.int) ∈ gw := gw_in 595 rfl rfl
set_option maxRecDepth 20000 in
theorem gw_596 : Cond.methodLink "CurvePathsLaw" (21) ({ cls := "CurvePathsModel", name := "line", desc := "(II)I" }) ∈ gw := gw_in 596 rfl rfl
set_option maxRecDepth 20000 in
theorem gw_597 : Cond.instanceMethod ({ cls := "CurvePathsModel", name := "line", desc := "(II)I" }) ∈ gw := gw_in 597 rfl rfl
set_option maxRecDepth 20000 in
theorem gw_598 : Cond.selects "CurvePathsModel" ({ cls := "CurvePathsModel", name := "line", desc := "(II)I" }) ({ cls := "CurvePathsModel", name := "line", desc := "(II)I" }) ∈ gw := gw_in 598 rfl rfl
set_option maxRecDepth 20000 in
theorem gw_599 : Cond.code ({ cls := "CurvePathsModel", name := "line", desc := "(II)I" }) prog_7_method_6_code (3) (Option.some Jvm.ClassFile.FieldType.int) ∈ gw := gw_in 599 rfl rfl
set_option maxRecDepth 20000 in
theorem gw_600 : Cond.methodLink "CurvePathsModel" (62) ({ cls := "CurvePathsModel", name := "isPoint", desc := "()Z" }) ∈ gw := gw_in 600 rfl rfl
set_option maxRecDepth 20000 in
theorem gw_601 : Cond.methodLink "CurvePathsModel" (66) ({ cls := "CurvePathsModel$Path", name := "open", desc := "()V" }) ∈ gw := gw_in 601 rfl rfl
set_option maxRecDepth 20000 in
theorem gw_602 : Cond.instanceMethod ({ cls := "CurvePathsModel$Path", name := "open", desc := "()V" }) ∈ gw := gw_in 602 rfl rfl
set_option maxRecDepth 20000 in
theorem gw_603 : Cond.selects "CurvePathsModel$Path" ({ cls := "CurvePathsModel$Path", name := "open", desc := "()V" }) ({ cls := "CurvePathsModel$Path", name := "open", desc := "()V" }) ∈ gw := gw_in 603 rfl rfl
set_option maxRecDepth 20000 in
theorem gw_604 : Cond.code ({ cls := "CurvePathsModel$Path", name := "open", desc := "()V" }) prog_8_method_9_code (1) (Option.none : Option Jvm.ClassFile.FieldType) ∈ gw := gw_in 604 rfl rfl
set_option maxRecDepth 20000 in
theorem gw_605 : Cond.methodLink "CurvePathsModel$Path" (45) ({ cls := "CurvePathsModel$Path", name := "get", desc := "(II)I" }) ∈ gw := gw_in 605 rfl rfl
set_option maxRecDepth 20000 in
theorem gw_606 : Cond.methodLink "CurvePathsModel" (69) ({ cls := "CurvePathsModel$Path", name := "addPoint", desc := "(IJJ)V" }) ∈ gw := gw_in 606 rfl rfl
set_option maxRecDepth 20000 in
theorem gw_607 : Cond.methodLink "CurvePathsLaw" (26) ({ cls := "CurvePathsModel", name := "curve", desc := "(IIIIII)I" }) ∈ gw := gw_in 607 rfl rfl
set_option maxRecDepth 20000 in
theorem gw_608 : Cond.instanceMethod ({ cls := "CurvePathsModel", name := "curve", desc := "(IIIIII)I" }) ∈ gw := gw_in 608 rfl rfl
set_option maxRecDepth 20000 in
theorem gw_609 : Cond.selects "CurvePathsModel" ({ cls := "CurvePathsModel", name := "curve", desc := "(IIIIII)I" }) ({ cls := "CurvePathsModel", name := "curve", desc := "(IIIIII)I" }) ∈ gw := gw_in 609 rfl rfl
set_option maxRecDepth 20000 in
theorem gw_610 : Cond.code ({ cls := "CurvePathsModel", name := "curve", desc := "(IIIIII)I" }) prog_7_method_7_code (7) (Option.some Jvm.ClassFile.FieldType.int) ∈ gw := gw_in 610 rfl rfl
set_option maxRecDepth 20000 in
theorem gw_611 : Cond.methodLink "CurvePathsModel" (73) ({ cls := "CurvePathsModel$Path", name := "add", desc := "(IJJJJJJ)V" }) ∈ gw := gw_in 611 rfl rfl
set_option maxRecDepth 20000 in
theorem gw_612 : Cond.methodLink "CurvePathsLaw" (31) ({ cls := "CurvePathsModel", name := "close", desc := "()I" }) ∈ gw := gw_in 612 rfl rfl
set_option maxRecDepth 20000 in
theorem gw_613 : Cond.instanceMethod ({ cls := "CurvePathsModel", name := "close", desc := "()I" }) ∈ gw := gw_in 613 rfl rfl
set_option maxRecDepth 20000 in
theorem gw_614 : Cond.selects "CurvePathsModel" ({ cls := "CurvePathsModel", name := "close", desc := "()I" }) ({ cls := "CurvePathsModel", name := "close", desc := "()I" }) ∈ gw := gw_in 614 rfl rfl
set_option maxRecDepth 20000 in
theorem gw_615 : Cond.code ({ cls := "CurvePathsModel", name := "close", desc := "()I" }) prog_7_method_8_code (2) (Option.some Jvm.ClassFile.FieldType.int) ∈ gw := gw_in 615 rfl rfl
set_option maxRecDepth 20000 in
theorem gw_616 : Cond.methodLink "CurvePathsModel" (81) ({ cls := "CurvePathsModel$Path", name := "first", desc := "(I)I" }) ∈ gw := gw_in 616 rfl rfl
set_option maxRecDepth 20000 in
theorem gw_617 : Cond.instanceMethod ({ cls := "CurvePathsModel$Path", name := "first", desc := "(I)I" }) ∈ gw := gw_in 617 rfl rfl
set_option maxRecDepth 20000 in
theorem gw_618 : Cond.selects "CurvePathsModel$Path" ({ cls := "CurvePathsModel$Path", name := "first", desc := "(I)I" }) ({ cls := "CurvePathsModel$Path", name := "first", desc := "(I)I" }) ∈ gw := gw_in 618 rfl rfl
set_option maxRecDepth 20000 in
theorem gw_619 : Cond.code ({ cls := "CurvePathsModel$Path", name := "first", desc := "(I)I" }) prog_8_method_8_code (3) (Option.some Jvm.ClassFile.FieldType.int) ∈ gw := gw_in 619 rfl rfl
set_option maxRecDepth 20000 in
theorem gw_620 : Cond.methodLink "CurvePathsLaw" (58) ({ cls := "CurvePathsModel", name := "clear", desc := "()I" }) ∈ gw := gw_in 620 rfl rfl
set_option maxRecDepth 20000 in
theorem gw_621 : Cond.instanceMethod ({ cls := "CurvePathsModel", name := "clear", desc := "()I" }) ∈ gw := gw_in 621 rfl rfl
set_option maxRecDepth 20000 in
theorem gw_622 : Cond.selects "CurvePathsModel" ({ cls := "CurvePathsModel", name := "clear", desc := "()I" }) ({ cls := "CurvePathsModel", name := "clear", desc := "()I" }) ∈ gw := gw_in 622 rfl rfl
set_option maxRecDepth 20000 in
theorem gw_623 : Cond.code ({ cls := "CurvePathsModel", name := "clear", desc := "()I" }) prog_7_method_9_code (2) (Option.some Jvm.ClassFile.FieldType.int) ∈ gw := gw_in 623 rfl rfl
set_option maxRecDepth 20000 in
theorem gw_624 : Cond.methodLink "CurvePathsModel" (85) ({ cls := "CurvePathsModel$Path", name := "empty", desc := "()V" }) ∈ gw := gw_in 624 rfl rfl
set_option maxRecDepth 20000 in
theorem gw_625 : Cond.methodLink "CurvePathsLaw" (36) ({ cls := "CurvePathsModel", name := "axes", desc := "(IIII)Z" }) ∈ gw := gw_in 625 rfl rfl
set_option maxRecDepth 20000 in
theorem gw_626 : Cond.instanceMethod ({ cls := "CurvePathsModel", name := "axes", desc := "(IIII)Z" }) ∈ gw := gw_in 626 rfl rfl
set_option maxRecDepth 20000 in
theorem gw_627 : Cond.selects "CurvePathsModel" ({ cls := "CurvePathsModel", name := "axes", desc := "(IIII)Z" }) ({ cls := "CurvePathsModel", name := "axes", desc := "(IIII)Z" }) ∈ gw := gw_in 627 rfl rfl
set_option maxRecDepth 20000 in
theorem gw_628 : Cond.code ({ cls := "CurvePathsModel", name := "axes", desc := "(IIII)Z" }) prog_7_method_10_code (5) (Option.some Jvm.ClassFile.FieldType.boolean) ∈ gw := gw_in 628 rfl rfl
set_option maxRecDepth 20000 in
theorem gw_630 : Cond.methodLink "CurvePathsLaw" (41) ({ cls := "CurvePathsModel", name := "arc", desc := "(IIIII)I" }) ∈ gw := gw_in 630 rfl rfl
set_option maxRecDepth 20000 in
theorem gw_631 : Cond.instanceMethod ({ cls := "CurvePathsModel", name := "arc", desc := "(IIIII)I" }) ∈ gw := gw_in 631 rfl rfl
set_option maxRecDepth 20000 in
theorem gw_632 : Cond.selects "CurvePathsModel" ({ cls := "CurvePathsModel", name := "arc", desc := "(IIIII)I" }) ({ cls := "CurvePathsModel", name := "arc", desc := "(IIIII)I" }) ∈ gw := gw_in 632 rfl rfl
set_option maxRecDepth 20000 in
theorem gw_633 : Cond.code ({ cls := "CurvePathsModel", name := "arc", desc := "(IIIII)I" }) prog_7_method_22_code (8) (Option.some Jvm.ClassFile.FieldType.int) ∈ gw := gw_in 633 rfl rfl
set_option maxRecDepth 20000 in
theorem gw_634 : Cond.constantLong "CurvePathsModel" (153) (23592960 : Int64) ∈ gw := gw_in 634 rfl rfl
set_option maxRecDepth 20000 in
theorem gw_635 : Cond.methodLink "CurvePathsModel" (104) ({ cls := "java/lang/Math", name := "floorDiv", desc := "(JJ)J" }) ∈ gw := gw_in 635 rfl rfl
set_option maxRecDepth 20000 in
theorem gw_636 : Cond.constantLong "CurvePathsModel" (155) (235929600 : Int64) ∈ gw := gw_in 636 rfl rfl
set_option maxRecDepth 20000 in
theorem gw_637 : Cond.methodLink "CurvePathsModel" (157) ({ cls := "CurvePathsModel", name := "addArc", desc := "(JJJJZ)V" }) ∈ gw := gw_in 637 rfl rfl
set_option maxRecDepth 20000 in
theorem gw_639 : Cond.instanceMethod ({ cls := "CurvePathsModel", name := "addArc", desc := "(JJJJZ)V" }) ∈ gw := gw_in 639 rfl rfl
set_option maxRecDepth 20000 in
theorem gw_640 : Cond.code ({ cls := "CurvePathsModel", name := "addArc", desc := "(JJJJZ)V" }) prog_7_method_21_code (19) (Option.none : Option Jvm.ClassFile.FieldType) ∈ gw := gw_in 640 rfl rfl
set_option maxRecDepth 20000 in
theorem gw_641 : Cond.constantLong "CurvePathsModel" (92) (5898240 : Int64) ∈ gw := gw_in 641 rfl rfl
set_option maxRecDepth 20000 in
theorem gw_642 : Cond.methodLink "CurvePathsModel" (133) ({ cls := "CurvePathsModel", name := "from", desc := "(JJ)J" }) ∈ gw := gw_in 642 rfl rfl
set_option maxRecDepth 20000 in
theorem gw_643 : Cond.static ({ cls := "CurvePathsModel", name := "from", desc := "(JJ)J" }) ∈ gw := gw_in 643 rfl rfl
set_option maxRecDepth 20000 in
theorem gw_644 : Cond.code ({ cls := "CurvePathsModel", name := "from", desc := "(JJ)J" }) prog_7_method_19_code (4) (Option.some Jvm.ClassFile.FieldType.long) ∈ gw := gw_in 644 rfl rfl
set_option maxRecDepth 20000 in
theorem gw_645 : Cond.methodLink "CurvePathsModel" (129) ({ cls := "CurvePathsModel", name := "placeOf", desc := "(J)J" }) ∈ gw := gw_in 645 rfl rfl
set_option maxRecDepth 20000 in
theorem gw_646 : Cond.static ({ cls := "CurvePathsModel", name := "placeOf", desc := "(J)J" }) ∈ gw := gw_in 646 rfl rfl
set_option maxRecDepth 20000 in
theorem gw_647 : Cond.code ({ cls := "CurvePathsModel", name := "placeOf", desc := "(J)J" }) prog_7_method_11_code (2) (Option.some Jvm.ClassFile.FieldType.long) ∈ gw := gw_in 647 rfl rfl
set_option maxRecDepth 20000 in
theorem gw_648 : Cond.methodLink "CurvePathsModel" (94) ({ cls := "java/lang/Math", name := "floorMod", desc := "(JJ)J" }) ∈ gw := gw_in 648 rfl rfl
set_option maxRecDepth 20000 in
theorem gw_649 : Cond.constantLong "CurvePathsModel" (100) (45 : Int64) ∈ gw := gw_in 649 rfl rfl
set_option maxRecDepth 20000 in
theorem gw_650 : Cond.constantLong "CurvePathsModel" (102) (90 : Int64) ∈ gw := gw_in 650 rfl rfl
set_option maxRecDepth 20000 in
theorem gw_651 : Cond.methodLink "CurvePathsModel" (136) ({ cls := "CurvePathsModel", name := "to", desc := "(JJ)J" }) ∈ gw := gw_in 651 rfl rfl
set_option maxRecDepth 20000 in
theorem gw_652 : Cond.static ({ cls := "CurvePathsModel", name := "to", desc := "(JJ)J" }) ∈ gw := gw_in 652 rfl rfl
set_option maxRecDepth 20000 in
theorem gw_653 : Cond.code ({ cls := "CurvePathsModel", name := "to", desc := "(JJ)J" }) prog_7_method_20_code (4) (Option.some Jvm.ClassFile.FieldType.long) ∈ gw := gw_in 653 rfl rfl
set_option maxRecDepth 20000 in
theorem gw_654 : Cond.constantLong "CurvePathsModel" (107) (65536 : Int64) ∈ gw := gw_in 654 rfl rfl
set_option maxRecDepth 20000 in
theorem gw_655 : Cond.methodLink "CurvePathsModel" (139) ({ cls := "CurvePathsModel", name := "quarter", desc := "(J)V" }) ∈ gw := gw_in 655 rfl rfl
set_option maxRecDepth 20000 in
theorem gw_657 : Cond.instanceMethod ({ cls := "CurvePathsModel", name := "quarter", desc := "(J)V" }) ∈ gw := gw_in 657 rfl rfl
set_option maxRecDepth 20000 in
theorem gw_658 : Cond.code ({ cls := "CurvePathsModel", name := "quarter", desc := "(J)V" }) prog_7_method_12_code (7) (Option.none : Option Jvm.ClassFile.FieldType) ∈ gw := gw_in 658 rfl rfl
set_option maxRecDepth 20000 in
theorem gw_659 : Cond.constantLong "CurvePathsModel" (109) (36195 : Int64) ∈ gw := gw_in 659 rfl rfl
set_option maxRecDepth 20000 in
theorem gw_660 : Cond.constantLong "CurvePathsModel" (111) (4 : Int64) ∈ gw := gw_in 660 rfl rfl
set_option maxRecDepth 20000 in
theorem gw_661 : Cond.methodLink "CurvePathsModel" (142) ({ cls := "CurvePathsModel", name := "cut", desc := "(JJ)V" }) ∈ gw := gw_in 661 rfl rfl
set_option maxRecDepth 20000 in
theorem gw_663 : Cond.instanceMethod ({ cls := "CurvePathsModel", name := "cut", desc := "(JJ)V" }) ∈ gw := gw_in 663 rfl rfl
set_option maxRecDepth 20000 in
theorem gw_664 : Cond.code ({ cls := "CurvePathsModel", name := "cut", desc := "(JJ)V" }) prog_7_method_15_code (6) (Option.none : Option Jvm.ClassFile.FieldType) ∈ gw := gw_in 664 rfl rfl
set_option maxRecDepth 20000 in
theorem gw_665 : Cond.methodLink "CurvePathsModel" (119) ({ cls := "CurvePathsModel", name := "part", desc := "(J)V" }) ∈ gw := gw_in 665 rfl rfl
set_option maxRecDepth 20000 in
theorem gw_667 : Cond.instanceMethod ({ cls := "CurvePathsModel", name := "part", desc := "(J)V" }) ∈ gw := gw_in 667 rfl rfl
set_option maxRecDepth 20000 in
theorem gw_668 : Cond.code ({ cls := "CurvePathsModel", name := "part", desc := "(J)V" }) prog_7_method_14_code (5) (Option.none : Option Jvm.ClassFile.FieldType) ∈ gw := gw_in 668 rfl rfl
set_option maxRecDepth 20000 in
theorem gw_669 : Cond.methodLink "CurvePathsModel" (115) ({ cls := "CurvePathsModel", name := "mix", desc := "(JJJ)J" }) ∈ gw := gw_in 669 rfl rfl
set_option maxRecDepth 20000 in
theorem gw_670 : Cond.static ({ cls := "CurvePathsModel", name := "mix", desc := "(JJJ)J" }) ∈ gw := gw_in 670 rfl rfl
set_option maxRecDepth 20000 in
theorem gw_671 : Cond.code ({ cls := "CurvePathsModel", name := "mix", desc := "(JJJ)J" }) prog_7_method_13_code (6) (Option.some Jvm.ClassFile.FieldType.long) ∈ gw := gw_in 671 rfl rfl
set_option maxRecDepth 20000 in
theorem gw_672 : Cond.constantLong "CurvePathsModel" (113) (32768 : Int64) ∈ gw := gw_in 672 rfl rfl
set_option maxRecDepth 20000 in
theorem gw_673 : Cond.constantLong "CurvePathsModel" (123) (2 : Int64) ∈ gw := gw_in 673 rfl rfl
set_option maxRecDepth 20000 in
theorem gw_674 : Cond.methodLink "CurvePathsModel" (145) ({ cls := "CurvePathsModel", name := "beginArc", desc := "(JJJJ)V" }) ∈ gw := gw_in 674 rfl rfl
set_option maxRecDepth 20000 in
theorem gw_676 : Cond.instanceMethod ({ cls := "CurvePathsModel", name := "beginArc", desc := "(JJJJ)V" }) ∈ gw := gw_in 676 rfl rfl
set_option maxRecDepth 20000 in
theorem gw_677 : Cond.code ({ cls := "CurvePathsModel", name := "beginArc", desc := "(JJJJ)V" }) prog_7_method_17_code (13) (Option.none : Option Jvm.ClassFile.FieldType) ∈ gw := gw_in 677 rfl rfl
set_option maxRecDepth 20000 in
theorem gw_678 : Cond.methodLink "CurvePathsModel" (125) ({ cls := "CurvePathsModel", name := "around", desc := "(JJJI)J" }) ∈ gw := gw_in 678 rfl rfl
set_option maxRecDepth 20000 in
theorem gw_680 : Cond.instanceMethod ({ cls := "CurvePathsModel", name := "around", desc := "(JJJI)J" }) ∈ gw := gw_in 680 rfl rfl
set_option maxRecDepth 20000 in
theorem gw_681 : Cond.code ({ cls := "CurvePathsModel", name := "around", desc := "(JJJI)J" }) prog_7_method_16_code (8) (Option.some Jvm.ClassFile.FieldType.long) ∈ gw := gw_in 681 rfl rfl
set_option maxRecDepth 20000 in
theorem gw_682 : Cond.methodLink "CurvePathsModel" (149) ({ cls := "CurvePathsModel", name := "addCurve", desc := "(JJZ)V" }) ∈ gw := gw_in 682 rfl rfl
set_option maxRecDepth 20000 in
theorem gw_684 : Cond.instanceMethod ({ cls := "CurvePathsModel", name := "addCurve", desc := "(JJZ)V" }) ∈ gw := gw_in 684 rfl rfl
set_option maxRecDepth 20000 in
theorem gw_685 : Cond.code ({ cls := "CurvePathsModel", name := "addCurve", desc := "(JJZ)V" }) prog_7_method_18_code (9) (Option.none : Option Jvm.ClassFile.FieldType) ∈ gw := gw_in 685 rfl rfl
set_option maxRecDepth 20000 in
theorem gw_686 : Cond.methodLink "CurvePathsLaw" (45) ({ cls := "CurvePathsModel", name := "shift", desc := "(II)I" }) ∈ gw := gw_in 686 rfl rfl
set_option maxRecDepth 20000 in
theorem gw_687 : Cond.instanceMethod ({ cls := "CurvePathsModel", name := "shift", desc := "(II)I" }) ∈ gw := gw_in 687 rfl rfl
set_option maxRecDepth 20000 in
theorem gw_688 : Cond.selects "CurvePathsModel" ({ cls := "CurvePathsModel", name := "shift", desc := "(II)I" }) ({ cls := "CurvePathsModel", name := "shift", desc := "(II)I" }) ∈ gw := gw_in 688 rfl rfl
set_option maxRecDepth 20000 in
theorem gw_689 : Cond.code ({ cls := "CurvePathsModel", name := "shift", desc := "(II)I" }) prog_7_method_23_code (5) (Option.some Jvm.ClassFile.FieldType.int) ∈ gw := gw_in 689 rfl rfl
set_option maxRecDepth 20000 in
theorem gw_690 : Cond.methodLink "CurvePathsLaw" (49) ({ cls := "CurvePathsModel", name := "reverse", desc := "()I" }) ∈ gw := gw_in 690 rfl rfl
set_option maxRecDepth 20000 in
theorem gw_691 : Cond.instanceMethod ({ cls := "CurvePathsModel", name := "reverse", desc := "()I" }) ∈ gw := gw_in 691 rfl rfl
set_option maxRecDepth 20000 in
theorem gw_692 : Cond.selects "CurvePathsModel" ({ cls := "CurvePathsModel", name := "reverse", desc := "()I" }) ({ cls := "CurvePathsModel", name := "reverse", desc := "()I" }) ∈ gw := gw_in 692 rfl rfl
set_option maxRecDepth 20000 in
theorem gw_693 : Cond.code ({ cls := "CurvePathsModel", name := "reverse", desc := "()I" }) prog_7_method_24_code (3) (Option.some Jvm.ClassFile.FieldType.int) ∈ gw := gw_in 693 rfl rfl
set_option maxRecDepth 20000 in
theorem gw_694 : Cond.methodLink "CurvePathsModel" (161) ({ cls := "CurvePathsModel", name := "turn", desc := "(II)V" }) ∈ gw := gw_in 694 rfl rfl
set_option maxRecDepth 20000 in
theorem gw_696 : Cond.instanceMethod ({ cls := "CurvePathsModel", name := "turn", desc := "(II)V" }) ∈ gw := gw_in 696 rfl rfl
set_option maxRecDepth 20000 in
theorem gw_697 : Cond.code ({ cls := "CurvePathsModel", name := "turn", desc := "(II)V" }) prog_7_method_25_code (7) (Option.none : Option Jvm.ClassFile.FieldType) ∈ gw := gw_in 697 rfl rfl
set_option maxRecDepth 20000 in
theorem gw_698 : Cond.methodLink "CurvePathsLaw" (54) ({ cls := "CurvePathsModel", name := "flatten", desc := "(I)I" }) ∈ gw := gw_in 698 rfl rfl
set_option maxRecDepth 20000 in
theorem gw_699 : Cond.instanceMethod ({ cls := "CurvePathsModel", name := "flatten", desc := "(I)I" }) ∈ gw := gw_in 699 rfl rfl
set_option maxRecDepth 20000 in
theorem gw_700 : Cond.selects "CurvePathsModel" ({ cls := "CurvePathsModel", name := "flatten", desc := "(I)I" }) ({ cls := "CurvePathsModel", name := "flatten", desc := "(I)I" }) ∈ gw := gw_in 700 rfl rfl
set_option maxRecDepth 20000 in
theorem gw_701 : Cond.code ({ cls := "CurvePathsModel", name := "flatten", desc := "(I)I" }) prog_7_method_28_code (3) (Option.some Jvm.ClassFile.FieldType.int) ∈ gw := gw_in 701 rfl rfl
set_option maxRecDepth 20000 in
theorem gw_702 : Cond.constant "CurvePathsModel" (178) (6553600 : Int32) ∈ gw := gw_in 702 rfl rfl
set_option maxRecDepth 20000 in
theorem gw_703 : Cond.methodLink "CurvePathsModel" (174) ({ cls := "CurvePathsModel", name := "lay", desc := "(LCurvePathsModel$Path;JJJJJJJJII)V" }) ∈ gw := gw_in 703 rfl rfl
set_option maxRecDepth 20000 in
theorem gw_704 : Cond.static ({ cls := "CurvePathsModel", name := "lay", desc := "(LCurvePathsModel$Path;JJJJJJJJII)V" }) ∈ gw := gw_in 704 rfl rfl
set_option maxRecDepth 20000 in
theorem gw_705 : Cond.code ({ cls := "CurvePathsModel", name := "lay", desc := "(LCurvePathsModel$Path;JJJJJJJJII)V" }) prog_7_method_27_code (43) (Option.none : Option Jvm.ClassFile.FieldType) ∈ gw := gw_in 705 rfl rfl
set_option maxRecDepth 20000 in
theorem gw_706 : Cond.methodLink "CurvePathsModel" (170) ({ cls := "CurvePathsModel", name := "isStraight", desc := "(JJJI)Z" }) ∈ gw := gw_in 706 rfl rfl
set_option maxRecDepth 20000 in
theorem gw_707 : Cond.static ({ cls := "CurvePathsModel", name := "isStraight", desc := "(JJJI)Z" }) ∈ gw := gw_in 707 rfl rfl
set_option maxRecDepth 20000 in
theorem gw_708 : Cond.code ({ cls := "CurvePathsModel", name := "isStraight", desc := "(JJJI)Z" }) prog_7_method_26_code (7) (Option.some Jvm.ClassFile.FieldType.boolean) ∈ gw := gw_in 708 rfl rfl
set_option maxRecDepth 20000 in
theorem gw_709 : Cond.constantLong "CurvePathsModel" (165) (3 : Int64) ∈ gw := gw_in 709 rfl rfl
set_option maxRecDepth 20000 in
theorem gw_710 : Cond.methodLink "CurvePathsModel" (167) ({ cls := "java/lang/Math", name := "abs", desc := "(J)J" }) ∈ gw := gw_in 710 rfl rfl
set_option maxRecDepth 20000 in
theorem gw_711 : Cond.methodLink "CurvePathsLaw" (62) ({ cls := "CurvePathsModel", name := "parts", desc := "()I" }) ∈ gw := gw_in 711 rfl rfl
set_option maxRecDepth 20000 in
theorem gw_712 : Cond.instanceMethod ({ cls := "CurvePathsModel", name := "parts", desc := "()I" }) ∈ gw := gw_in 712 rfl rfl
set_option maxRecDepth 20000 in
theorem gw_713 : Cond.selects "CurvePathsModel" ({ cls := "CurvePathsModel", name := "parts", desc := "()I" }) ({ cls := "CurvePathsModel", name := "parts", desc := "()I" }) ∈ gw := gw_in 713 rfl rfl
set_option maxRecDepth 20000 in
theorem gw_714 : Cond.code ({ cls := "CurvePathsModel", name := "parts", desc := "()I" }) prog_7_method_29_code (1) (Option.some Jvm.ClassFile.FieldType.int) ∈ gw := gw_in 714 rfl rfl
set_option maxRecDepth 20000 in
theorem gw_715 : Cond.methodLink "CurvePathsLaw" (66) ({ cls := "CurvePathsModel", name := "kind", desc := "(I)I" }) ∈ gw := gw_in 715 rfl rfl
set_option maxRecDepth 20000 in
theorem gw_716 : Cond.instanceMethod ({ cls := "CurvePathsModel", name := "kind", desc := "(I)I" }) ∈ gw := gw_in 716 rfl rfl
set_option maxRecDepth 20000 in
theorem gw_717 : Cond.selects "CurvePathsModel" ({ cls := "CurvePathsModel", name := "kind", desc := "(I)I" }) ({ cls := "CurvePathsModel", name := "kind", desc := "(I)I" }) ∈ gw := gw_in 717 rfl rfl
set_option maxRecDepth 20000 in
theorem gw_718 : Cond.code ({ cls := "CurvePathsModel", name := "kind", desc := "(I)I" }) prog_7_method_30_code (2) (Option.some Jvm.ClassFile.FieldType.int) ∈ gw := gw_in 718 rfl rfl
set_option maxRecDepth 20000 in
theorem gw_719 : Cond.methodLink "CurvePathsLaw" (70) ({ cls := "CurvePathsModel", name := "place", desc := "(II)I" }) ∈ gw := gw_in 719 rfl rfl
set_option maxRecDepth 20000 in
theorem gw_720 : Cond.instanceMethod ({ cls := "CurvePathsModel", name := "place", desc := "(II)I" }) ∈ gw := gw_in 720 rfl rfl
set_option maxRecDepth 20000 in
theorem gw_721 : Cond.selects "CurvePathsModel" ({ cls := "CurvePathsModel", name := "place", desc := "(II)I" }) ({ cls := "CurvePathsModel", name := "place", desc := "(II)I" }) ∈ gw := gw_in 721 rfl rfl
set_option maxRecDepth 20000 in
theorem gw_722 : Cond.code ({ cls := "CurvePathsModel", name := "place", desc := "(II)I" }) prog_7_method_31_code (3) (Option.some Jvm.ClassFile.FieldType.int) ∈ gw := gw_in 722 rfl rfl
set_option maxRecDepth 20000 in
theorem gw_723 : Cond.methodLink "CurvePathsLaw" (83) ({ cls := "CurvePathsModel", name := "bound", desc := "(I)I" }) ∈ gw := gw_in 723 rfl rfl
set_option maxRecDepth 20000 in
theorem gw_724 : Cond.instanceMethod ({ cls := "CurvePathsModel", name := "bound", desc := "(I)I" }) ∈ gw := gw_in 724 rfl rfl
set_option maxRecDepth 20000 in
theorem gw_725 : Cond.selects "CurvePathsModel" ({ cls := "CurvePathsModel", name := "bound", desc := "(I)I" }) ({ cls := "CurvePathsModel", name := "bound", desc := "(I)I" }) ∈ gw := gw_in 725 rfl rfl
set_option maxRecDepth 20000 in
theorem gw_726 : Cond.code ({ cls := "CurvePathsModel", name := "bound", desc := "(I)I" }) prog_7_method_32_code (6) (Option.some Jvm.ClassFile.FieldType.int) ∈ gw := gw_in 726 rfl rfl
end
section
/-- the row QUARTER, as the class has it at its start -/
def qtab : Nat → Int32 := fun j => match j with | 0 => 65536 | 1 => 0 | 2 => 65536 | 3 => 36195 | 4 => 36195 | 5 => 65536 | 6 => 0 | _ => 65536
/-- what nobody changes: links between nest mates, and the static row -/
def amb (qQ : Nat) (A : Nat → Prop) (U : State) (H : Heap) : Prop := va_Nw (.methodLinkNest "CurvePaths" (11) ({ cls := "CurvePaths$Axes", name := "<init>", desc := "()V" }) "CurvePaths") U ∧ va_Nw (.methodLinkNest "CurvePaths" (18) ({ cls := "CurvePaths$Arc", name := "<init>", desc := "()V" }) "CurvePaths") U ∧ va_Nw (.methodLinkNest "CurvePaths" (25) ({ cls := "CurvePaths$Halving", name := "<init>", desc := "()V" }) "CurvePaths") U ∧ va_Nw (.methodLinkNest "CurvePaths" (32) ({ cls := "CurvePaths$Path", name := "<init>", desc := "()V" }) "CurvePaths") U ∧ va_Nw (.methodLinkNest "CurvePaths$Path" (63) ({ cls := "CurvePaths", name := "withRoom", desc := "([III)[I" }) "CurvePaths") U ∧ va_Nw (.fieldLinkNest "CurvePaths$Arc" (94) "CurvePaths" "QUARTER" "[I" "CurvePaths") U ∧ va_Nw (.methodLinkNest "CurvePaths$Arc" (60) ({ cls := "CurvePaths", name := "turnRow", desc := "([III)V" }) "CurvePaths") U ∧ va_Nw (.methodLinkNest "CurvePaths$Arc" (73) ({ cls := "CurvePaths", name := "isFarPoint", desc := "(JJ)Z" }) "CurvePaths") U ∧ va_Nw (.methodLinkNest "CurvePaths$Path" (59) ({ cls := "CurvePaths", name := "turnRow", desc := "([III)V" }) "CurvePaths") U ∧ va_Nw (.methodLinkNest "CurvePathsModel" (9) ({ cls := "CurvePathsModel$Path", name := "<init>", desc := "()V" }) "CurvePathsModel") U ∧ va_Nw (.fieldLinkNest "CurvePathsModel" (77) "CurvePathsModel$Path" "kinds" "[B" "CurvePathsModel") U ∧ va_Nw (.fieldLinkNest "CurvePathsModel" (42) "CurvePathsModel$Path" "size" "I" "CurvePathsModel") U ∧ va_Nw (.fieldLinkNest "CurvePathsModel" (39) "CurvePathsModel$Path" "full" "Z" "CurvePathsModel") U ∧ va_Nw (.fieldLinkNest "CurvePathsModel" (35) "CurvePathsModel$Path" "far" "Z" "CurvePathsModel") U ∧ va_Nw (.methodLinkNest "CurvePathsModel" (88) ({ cls := "CurvePathsModel$Path", name := "isFar", desc := "(J)Z" }) "CurvePathsModel") U ∧ va_Z "CurvePaths" "QUARTER" "[I" (.ref qQ) A U H ∧ va_T .int qQ 8 (fun j => .int (qtab j)) A U H
theorem amb_ok (qQ : Nat) : ctA (amb qQ) := by
  refine ⟨fun A u U H hW h => ?_, fun A U H H1 hk h => ?_, fun A B U H hk h => ?_⟩
  · obtain ⟨h0, h1, h2, h3, h4, h5, h6, h7, h8, h9, h10, h11, h12, h13, h14, hz, ht⟩ := h
    exact ⟨h0.warmM hW, h1.warmM hW, h2.warmM hW, h3.warmM hW, h4.warmM hW, h5.warmF hW, h6.warmM hW, h7.warmM hW, h8.warmM hW, h9.warmM hW, h10.warmF hW, h11.warmF hW, h12.warmF hW, h13.warmF hW, h14.warmM hW, hz.moved hW.alike, ht.moved hW.alike⟩
  · obtain ⟨h0, h1, h2, h3, h4, h5, h6, h7, h8, h9, h10, h11, h12, h13, h14, hz, ht⟩ := h
    exact ⟨h0, h1, h2, h3, h4, h5, h6, h7, h8, h9, h10, h11, h12, h13, h14, hz.kept hk, ht.kept hk⟩
  · obtain ⟨h0, h1, h2, h3, h4, h5, h6, h7, h8, h9, h10, h11, h12, h13, h14, hz, ht⟩ := h
    exact ⟨h0, h1, h2, h3, h4, h5, h6, h7, h8, h9, h10, h11, h12, h13, h14, hz.narrow hk, ht.narrow hk⟩
section AMB
variable {qQ : Nat} {A : Nat → Prop} {U : State} {H : Heap}
theorem amb_nw_0 (h : amb qQ A U H) : va_Nw (.methodLinkNest "CurvePaths" (11) ({ cls := "CurvePaths$Axes", name := "<init>", desc := "()V" }) "CurvePaths") U := h.1
theorem amb_nw_1 (h : amb qQ A U H) : va_Nw (.methodLinkNest "CurvePaths" (18) ({ cls := "CurvePaths$Arc", name := "<init>", desc := "()V" }) "CurvePaths") U := h.2.1
theorem amb_nw_2 (h : amb qQ A U H) : va_Nw (.methodLinkNest "CurvePaths" (25) ({ cls := "CurvePaths$Halving", name := "<init>", desc := "()V" }) "CurvePaths") U := h.2.2.1
theorem amb_nw_3 (h : amb qQ A U H) : va_Nw (.methodLinkNest "CurvePaths" (32) ({ cls := "CurvePaths$Path", name := "<init>", desc := "()V" }) "CurvePaths") U := h.2.2.2.1
theorem amb_nw_4 (h : amb qQ A U H) : va_Nw (.methodLinkNest "CurvePaths$Path" (63) ({ cls := "CurvePaths", name := "withRoom", desc := "([III)[I" }) "CurvePaths") U := h.2.2.2.2.1
theorem amb_nw_5 (h : amb qQ A U H) : va_Nw (.fieldLinkNest "CurvePaths$Arc" (94) "CurvePaths" "QUARTER" "[I" "CurvePaths") U := h.2.2.2.2.2.1
theorem amb_nw_6 (h : amb qQ A U H) : va_Nw (.methodLinkNest "CurvePaths$Arc" (60) ({ cls := "CurvePaths", name := "turnRow", desc := "([III)V" }) "CurvePaths") U := h.2.2.2.2.2.2.1
theorem amb_nw_7 (h : amb qQ A U H) : va_Nw (.methodLinkNest "CurvePaths$Arc" (73) ({ cls := "CurvePaths", name := "isFarPoint", desc := "(JJ)Z" }) "CurvePaths") U := h.2.2.2.2.2.2.2.1
theorem amb_nw_8 (h : amb qQ A U H) : va_Nw (.methodLinkNest "CurvePaths$Path" (59) ({ cls := "CurvePaths", name := "turnRow", desc := "([III)V" }) "CurvePaths") U := h.2.2.2.2.2.2.2.2.1
theorem amb_nw_9 (h : amb qQ A U H) : va_Nw (.methodLinkNest "CurvePathsModel" (9) ({ cls := "CurvePathsModel$Path", name := "<init>", desc := "()V" }) "CurvePathsModel") U := h.2.2.2.2.2.2.2.2.2.1
theorem amb_nw_10 (h : amb qQ A U H) : va_Nw (.fieldLinkNest "CurvePathsModel" (77) "CurvePathsModel$Path" "kinds" "[B" "CurvePathsModel") U := h.2.2.2.2.2.2.2.2.2.2.1
theorem amb_nw_11 (h : amb qQ A U H) : va_Nw (.fieldLinkNest "CurvePathsModel" (42) "CurvePathsModel$Path" "size" "I" "CurvePathsModel") U := h.2.2.2.2.2.2.2.2.2.2.2.1
theorem amb_nw_12 (h : amb qQ A U H) : va_Nw (.fieldLinkNest "CurvePathsModel" (39) "CurvePathsModel$Path" "full" "Z" "CurvePathsModel") U := h.2.2.2.2.2.2.2.2.2.2.2.2.1
theorem amb_nw_13 (h : amb qQ A U H) : va_Nw (.fieldLinkNest "CurvePathsModel" (35) "CurvePathsModel$Path" "far" "Z" "CurvePathsModel") U := h.2.2.2.2.2.2.2.2.2.2.2.2.2.1
theorem amb_nw_14 (h : amb qQ A U H) : va_Nw (.methodLinkNest "CurvePathsModel" (88) ({ cls := "CurvePathsModel$Path", name := "isFar", desc := "(J)Z" }) "CurvePathsModel") U := h.2.2.2.2.2.2.2.2.2.2.2.2.2.2.1
theorem amb_z (h : amb qQ A U H) : va_Z "CurvePaths" "QUARTER" "[I" (.ref qQ) A U H := h.2.2.2.2.2.2.2.2.2.2.2.2.2.2.2.1
theorem amb_t (h : amb qQ A U H) : va_T .int qQ 8 (fun j => .int (qtab j)) A U H := h.2.2.2.2.2.2.2.2.2.2.2.2.2.2.2.2
end AMB
theorem gw_objc : Cond.code objectInit ⟨#[0xb1]⟩ 1 none ∈ gw := gw_45
end
section
/-! rows of bytes and of longs, with numbers as indices -/
section HPB
variable {p : Program} {l : Launch} {e : Env} {R : Room} {s : State} {m : MethodId} {args : Array Value} {below : List Frame} {meth : Method} {c : Code} {H : Heap} {locs : List Loc} {cells slots : Nat} {Q : State → Prop}
variable {cc : ByteArray} {pc : Nat} {ls : Array Slot} {rest : List Value} {D : va_G} {cl : List vw_C} {A : Nat → Prop} {a : Nat} {tys : List (ClassId × FieldType)} {ws : va_W} {H0 : Heap}
theorem ld_b (hexec : p.tables.exec = Jvm.exec) (hb : c.code = cc) (hK : va_K D cl tys s) (hP : va_P D cl ws H) (q0 t0 : Nat) {cA : ClassId} {n : Nat} {f : Nat → Int32} (ha : ws[q0]? = some (a, .inl (cA, n, .inl f))) (ht : tys[t0]? = some (cA, .byte)) (k : Nat) (hk : k < n) (hn : n < 2 ^ 31) (hdg : decode cc pc = .ok (.baload, 1))
    (kk : W p l e R s m args below meth c H locs cells slots Q (F0 m (pc + 1) ls (.int (f k) :: rest))) : W p l e R s m args below meth c H locs cells slots Q (F0 m pc ls (.int (nI k) :: .ref a :: rest)) :=
  va_bald hexec hb hK hP q0 t0 ha ht (vp_in_nI hk hn) hdg (by rw [nI_clamp (Nat.lt_trans hk hn)]; exact kk)
theorem st_b (hexec : p.tables.exec = Jvm.exec) (hb : c.code = cc) (hK : va_K D cl tys s) (hP : va_P D cl ws H) (hD : va_D A ws) (hS : va_S A H0 H locs) (q0 t0 : Nat) {cA : ClassId} {n : Nat} {f : Nat → Int32} (ha : ws[q0]? = some (a, .inl (cA, n, .inl f))) (ht : tys[t0]? = some (cA, .byte)) (k : Nat) {x : Int32} (hz : vp_nar .byte x = x) (hk : k < n) (hn : n < 2 ^ 31) (hdg : decode cc pc = .ok (.bastore, 1))
    (kk : ∀ (H1 : Heap) (locs1 : List Loc), va_P D cl (ws.set q0 (a, .inl (cA, n, .inl (upd f k x)))) H1 → va_D A (ws.set q0 (a, .inl (cA, n, .inl (upd f k x)))) → va_S A H0 H1 locs1 → W p l e R s m args below meth c H1 locs1 cells slots Q (F0 m (pc + 1) ls rest)) : W p l e R s m args below meth c H locs cells slots Q (F0 m pc ls (.int x :: .int (nI k) :: .ref a :: rest)) :=
  va_bast hexec hb hK hP hD hS q0 t0 ha ht (vp_in_nI hk hn) hdg (by rw [nI_clamp (Nat.lt_trans hk hn), hz]; exact kk)
theorem ld_l (hexec : p.tables.exec = Jvm.exec) (hb : c.code = cc) (hK : va_K D cl tys s) (hP : va_P D cl ws H) (q0 t0 : Nat) {cA : ClassId} {n : Nat} {f : Nat → Int64} (ha : ws[q0]? = some (a, .inl (cA, n, .inr (.inl f)))) (ht : tys[t0]? = some (cA, .long)) (k : Nat) (hk : k < n) (hn : n < 2 ^ 31) (hdg : decode cc pc = .ok (.laload, 1))
    (kk : W p l e R s m args below meth c H locs cells slots Q (F0 m (pc + 1) ls (.long (f k) :: rest))) : W p l e R s m args below meth c H locs cells slots Q (F0 m pc ls (.int (nI k) :: .ref a :: rest)) :=
  va_lald hexec hb hK hP q0 t0 ha ht (vp_in_nI hk hn) hdg (by rw [nI_clamp (Nat.lt_trans hk hn)]; exact kk)
theorem st_l (hexec : p.tables.exec = Jvm.exec) (hb : c.code = cc) (hK : va_K D cl tys s) (hP : va_P D cl ws H) (hD : va_D A ws) (hS : va_S A H0 H locs) (q0 t0 : Nat) {cA : ClassId} {n : Nat} {f : Nat → Int64} (ha : ws[q0]? = some (a, .inl (cA, n, .inr (.inl f)))) (ht : tys[t0]? = some (cA, .long)) (k : Nat) {x : Int64} (hk : k < n) (hn : n < 2 ^ 31) (hdg : decode cc pc = .ok (.lastore, 1))
    (kk : ∀ (H1 : Heap) (locs1 : List Loc), va_P D cl (ws.set q0 (a, .inl (cA, n, .inr (.inl (vp_updL f k x))))) H1 → va_D A (ws.set q0 (a, .inl (cA, n, .inr (.inl (vp_updL f k x))))) → va_S A H0 H1 locs1 → W p l e R s m args below meth c H1 locs1 cells slots Q (F0 m (pc + 1) ls rest)) : W p l e R s m args below meth c H locs cells slots Q (F0 m pc ls (.long x :: .int (nI k) :: .ref a :: rest)) :=
  va_last hexec hb hK hP hD hS q0 t0 ha ht (vp_in_nI hk hn) hdg (by rw [nI_clamp (Nat.lt_trans hk hn)]; exact kk)
theorem na_b (hexec : p.tables.exec = Jvm.exec) (hb : c.code = cc) (harr : (Cond.arrayClass .byte).before args s = true) (hK : va_K D cl tys s) (hP : va_P D cl ws H) (hD : va_D A ws) (hS : va_S A H0 H locs) (hA : ∀ q, H0.size ≤ q → A q) (t0 : Nat) {cI : ClassId} (ht : tys[t0]? = some (cI, .byte)) (n : Nat) (hn : n < 2 ^ 26) (hcells : cells + 1 ≤ R.cells) (hslots : slots + n ≤ R.slots) (hdg : decode cc pc = .ok (.newarray .byte, 2))
    (kk : ∀ (q : Nat) (H1 : Heap), va_P D cl (ws ++ [(q, .inl (cI, n, .inl (fun _ => 0)))]) H1 → va_D A (ws ++ [(q, .inl (cI, n, .inl (fun _ => 0)))]) → va_S A H0 H1 locs → W p l e R s m args below meth c H1 locs (cells + 1) (slots + n) Q (F0 m (pc + 2) ls (.ref q :: rest))) : W p l e R s m args below meth c H locs cells slots Q (F0 m pc ls (.int (nI n) :: rest)) := by
  refine va_newa (atype := .byte) (ty := .byte) (a0 := (n, .inl (fun _ => 0))) (N' := n) hexec hb harr rfl hK hP hD hS hA (fun cA => rfl) (nI_pos (by omega)) (nI_clamp (by omega)) ?_ hcells hslots hdg (fun q cA H1 hK1 hP1 hD1 hS1 => ?_)
  · show n * 1 ≤ 536870912
    omega
  · have h1 := (hK1.2 tys.length (cA, .byte) (by simp)).2
    have h2 := (hK.2 t0 _ ht).2
    have h3 : cA = cI := Option.some.inj (h1.symm.trans h2)
    subst h3
    exact kk q H1 hP1 hD1 hS1
theorem na_l (hexec : p.tables.exec = Jvm.exec) (hb : c.code = cc) (harr : (Cond.arrayClass .long).before args s = true) (hK : va_K D cl tys s) (hP : va_P D cl ws H) (hD : va_D A ws) (hS : va_S A H0 H locs) (hA : ∀ q, H0.size ≤ q → A q) (t0 : Nat) {cI : ClassId} (ht : tys[t0]? = some (cI, .long)) (n : Nat) (hn : n < 2 ^ 25) (hcells : cells + 1 ≤ R.cells) (hslots : slots + n ≤ R.slots) (hdg : decode cc pc = .ok (.newarray .long, 2))
    (kk : ∀ (q : Nat) (H1 : Heap), va_P D cl (ws ++ [(q, .inl (cI, n, .inr (.inl (fun _ => 0))))]) H1 → va_D A (ws ++ [(q, .inl (cI, n, .inr (.inl (fun _ => 0))))]) → va_S A H0 H1 locs → W p l e R s m args below meth c H1 locs (cells + 1) (slots + n) Q (F0 m (pc + 2) ls (.ref q :: rest))) : W p l e R s m args below meth c H locs cells slots Q (F0 m pc ls (.int (nI n) :: rest)) := by
  refine va_newa (atype := .long) (ty := .long) (a0 := (n, .inr (.inl (fun _ => 0)))) (N' := n) hexec hb harr rfl hK hP hD hS hA (fun cA => rfl) (nI_pos (by omega)) (nI_clamp (by omega)) ?_ hcells hslots hdg (fun q cA H1 hK1 hP1 hD1 hS1 => ?_)
  · show n * 8 ≤ 536870912
    omega
  · have h1 := (hK1.2 tys.length (cA, .long) (by simp)).2
    have h2 := (hK.2 t0 _ ht).2
    have h3 : cA = cI := Option.some.inj (h1.symm.trans h2)
    subst h3
    exact kk q H1 hP1 hD1 hS1
end HPB
end
section
/-! the mathematical value of a path: a list of parts (kind, x, y, x1, y1, x2, y2) -/
abbrev Pt : Type := Int32 × Int32 × Int32 × Int32 × Int32 × Int32 × Int32
/-- a part out of the reference's rows -/
def pt (K P : Nat → Int32) (i : Nat) : Pt := (K i, P (6 * i), P (6 * i + 1), P (6 * i + 2), P (6 * i + 3), P (6 * i + 4), P (6 * i + 5))
def lst (n : Nat) (K P : Nat → Int32) : List Pt := (List.range n).map (pt K P)
def bz (b : Bool) : Int32 := if b then 1 else 0
theorem bz_t : bz true = 1 := rfl
theorem bz_f : bz false = 0 := rfl
theorem bz_0 {b : Bool} : bz b = 0 ↔ b = false := by cases b <;> decide
theorem bz_1 {b : Bool} : ¬ bz b = 0 ↔ b = true := by cases b <;> decide
theorem bz_nar (b : Bool) : narrow .boolean (.int (bz b)) = .int (bz b) := by cases b <;> rfl
theorem bz_fit (b : Bool) : fits .boolean (.int (bz b)) = true := by cases b <;> rfl
/-- a place that is too far away -/
def fr (v : Int64) : Bool := decide (v < -536870912) || decide (536870912 < v)
theorem lst_len (n : Nat) (K P : Nat → Int32) : (lst n K P).length = n := by simp [lst]
theorem lst_get {n : Nat} {K P : Nat → Int32} {i : Nat} (h : i < n) : (lst n K P)[i]? = some (pt K P i) := by simp [lst, h]
theorem lst_congr {n : Nat} {K P K' P' : Nat → Int32} (hK : ∀ i, i < n → K' i = K i) (hP : ∀ i, i < 6 * n → P' i = P i) : lst n K' P' = lst n K P := by
  unfold lst
  apply List.map_congr_left
  intro i hi
  have hi : i < n := List.mem_range.mp hi
  unfold pt
  rw [hK i hi, hP _ (by omega), hP _ (by omega), hP _ (by omega), hP _ (by omega), hP _ (by omega), hP _ (by omega)]
theorem lst_succ (n : Nat) (K P : Nat → Int32) : lst (n + 1) K P = lst n K P ++ [pt K P n] := by
  unfold lst
  rw [List.range_succ, List.map_append]
  rfl
theorem up_s {f : Nat → Int32} {k : Nat} {x : Int32} : upd f k x k = x := by simp [upd]
theorem up_n {f : Nat → Int32} {k j : Nat} {x : Int32} (h : j ≠ k) : upd f k x j = f j := by simp [upd, h]
theorem lst_snoc (n : Nat) (K P : Nat → Int32) (kd a b a1 b1 a2 b2 : Int32) : lst (n + 1) (upd K n kd) (upd (upd (upd (upd (upd (upd P (6 * n) a) (6 * n + 1) b) (6 * n + 2) a1) (6 * n + 3) b1) (6 * n + 4) a2) (6 * n + 5) b2) = lst n K P ++ [(kd, a, b, a1, b1, a2, b2)] := by
  rw [lst_succ]
  congr 1
  · apply lst_congr
    · intro i hi; exact up_n (by omega)
    · intro i hi
      rw [up_n (by omega), up_n (by omega), up_n (by omega), up_n (by omega), up_n (by omega), up_n (by omega)]
  · unfold pt
    simp [upd]
/-- the reference's draft: its parts, 'full', 'far' -/
abbrev DS : Type := List Pt × Bool × Bool
def addD (d : DS) (kd : Int32) (x y x1 y1 x2 y2 : Int64) : DS :=
  if d.1.length = 3000 then (d.1, true, d.2.2 || fr x || fr y || fr x1 || fr y1 || fr x2 || fr y2)
  else (d.1 ++ [(kd, x.toInt32, y.toInt32, x1.toInt32, y1.toInt32, x2.toInt32, y2.toInt32)], d.2.1, d.2.2 || fr x || fr y || fr x1 || fr y1 || fr x2 || fr y2)
def kok (k : Int32) : Prop := k = 0 ∨ k = 1 ∨ k = 2 ∨ k = 3
theorem kok_b {k : Int32} (h : kok k) : vp_nar .byte k = k := by rcases h with h | h | h | h <;> subst h <;> rfl
theorem kok_i {k : Int32} (h : kok k) : k.toInt8.toInt32 = k := by rcases h with h | h | h | h <;> subst h <;> rfl
end
section
section BB
variable {p : Program} {l : Launch} {e : Env} {R : Room} {s : State} {m : MethodId} {args : Array Value} {below : List Frame} {meth : Method} {c : Code} {H : Heap} {locs : List Loc} {cells slots : Nat} {Q : State → Prop}
variable {cc : ByteArray} {pc : Nat} {ls : Array Slot} {rest : List Value} {b : Bool} {tgt : Nat} {off : Int}
theorem bb_eq (hexec : p.tables.exec = Jvm.exec) (hb : c.code = cc) (hdg : decode cc pc = .ok (.ifCond .eq off, 3)) (ht : (pc : Int) + off = (tgt : Int)) (kt : b = false → W p l e R s m args below meth c H locs cells slots Q (F0 m tgt ls rest)) (kf : b = true → W p l e R s m args below meth c H locs cells slots Q (F0 m (pc + 3) ls rest)) : W p l e R s m args below meth c H locs cells slots Q (F0 m pc ls (.int (bz b) :: rest)) := lv_if_eq hexec hb hdg ht (fun h => kt (bz_0.mp h)) (fun h => kf (bz_1.mp h))
theorem bb_ne (hexec : p.tables.exec = Jvm.exec) (hb : c.code = cc) (hdg : decode cc pc = .ok (.ifCond .ne off, 3)) (ht : (pc : Int) + off = (tgt : Int)) (kt : b = true → W p l e R s m args below meth c H locs cells slots Q (F0 m tgt ls rest)) (kf : b = false → W p l e R s m args below meth c H locs cells slots Q (F0 m (pc + 3) ls rest)) : W p l e R s m args below meth c H locs cells slots Q (F0 m pc ls (.int (bz b) :: rest)) := lv_if_ne hexec hb hdg ht (fun h => kt (bz_1.mp h)) (fun h => kf (bz_0.mp h))
end BB
end
section
theorem d_MPath_init_0 : decode b_MPath_init 0 = .ok (.aload_n 0, 1) := by decide +kernel
theorem d_MPath_init_1 : decode b_MPath_init 1 = .ok (.invokespecial 3, 3) := by decide +kernel
theorem d_MPath_init_4 : decode b_MPath_init 4 = .ok (.aload_n 0, 1) := by decide +kernel
theorem d_MPath_init_5 : decode b_MPath_init 5 = .ok (.sipush 3000, 3) := by decide +kernel
theorem d_MPath_init_8 : decode b_MPath_init 8 = .ok (.newarray .byte, 2) := by decide +kernel
theorem d_MPath_init_10 : decode b_MPath_init 10 = .ok (.putfield 9, 3) := by decide +kernel
theorem d_MPath_init_13 : decode b_MPath_init 13 = .ok (.aload_n 0, 1) := by decide +kernel
theorem d_MPath_init_14 : decode b_MPath_init 14 = .ok (.sipush 18000, 3) := by decide +kernel
theorem d_MPath_init_17 : decode b_MPath_init 17 = .ok (.newarray .int, 2) := by decide +kernel
theorem d_MPath_init_19 : decode b_MPath_init 19 = .ok (.putfield 15, 3) := by decide +kernel
theorem d_MPath_init_22 : decode b_MPath_init 22 = .ok (.return_, 1) := by decide +kernel
theorem d_MPath_empty_0 : decode b_MPath_empty 0 = .ok (.aload_n 0, 1) := by decide +kernel
theorem d_MPath_empty_1 : decode b_MPath_empty 1 = .ok (.iconst 0, 1) := by decide +kernel
theorem d_MPath_empty_2 : decode b_MPath_empty 2 = .ok (.putfield 19, 3) := by decide +kernel
theorem d_MPath_empty_5 : decode b_MPath_empty 5 = .ok (.aload_n 0, 1) := by decide +kernel
theorem d_MPath_empty_6 : decode b_MPath_empty 6 = .ok (.iconst 0, 1) := by decide +kernel
theorem d_MPath_empty_7 : decode b_MPath_empty 7 = .ok (.putfield 23, 3) := by decide +kernel
theorem d_MPath_empty_10 : decode b_MPath_empty 10 = .ok (.aload_n 0, 1) := by decide +kernel
theorem d_MPath_empty_11 : decode b_MPath_empty 11 = .ok (.iconst 0, 1) := by decide +kernel
theorem d_MPath_empty_12 : decode b_MPath_empty 12 = .ok (.putfield 27, 3) := by decide +kernel
theorem d_MPath_empty_15 : decode b_MPath_empty 15 = .ok (.return_, 1) := by decide +kernel
theorem d_MPath_copy_0 : decode b_MPath_copy 0 = .ok (.aload_n 0, 1) := by decide +kernel
theorem d_MPath_copy_1 : decode b_MPath_copy 1 = .ok (.invokevirtual 30, 3) := by decide +kernel
theorem d_MPath_copy_4 : decode b_MPath_copy 4 = .ok (.aload_n 0, 1) := by decide +kernel
theorem d_MPath_copy_5 : decode b_MPath_copy 5 = .ok (.aload_n 1, 1) := by decide +kernel
theorem d_MPath_copy_6 : decode b_MPath_copy 6 = .ok (.getfield 19, 3) := by decide +kernel
theorem d_MPath_copy_9 : decode b_MPath_copy 9 = .ok (.putfield 19, 3) := by decide +kernel
theorem d_MPath_copy_12 : decode b_MPath_copy 12 = .ok (.iconst 0, 1) := by decide +kernel
theorem d_MPath_copy_13 : decode b_MPath_copy 13 = .ok (.istore_n 2, 1) := by decide +kernel
theorem d_MPath_copy_14 : decode b_MPath_copy 14 = .ok (.iload_n 2, 1) := by decide +kernel
theorem d_MPath_copy_15 : decode b_MPath_copy 15 = .ok (.aload_n 0, 1) := by decide +kernel
theorem d_MPath_copy_16 : decode b_MPath_copy 16 = .ok (.getfield 19, 3) := by decide +kernel
theorem d_MPath_copy_19 : decode b_MPath_copy 19 = .ok (.if_icmp .ge 21, 3) := by decide +kernel
theorem d_MPath_copy_22 : decode b_MPath_copy 22 = .ok (.aload_n 0, 1) := by decide +kernel
theorem d_MPath_copy_23 : decode b_MPath_copy 23 = .ok (.getfield 9, 3) := by decide +kernel
theorem d_MPath_copy_26 : decode b_MPath_copy 26 = .ok (.iload_n 2, 1) := by decide +kernel
theorem d_MPath_copy_27 : decode b_MPath_copy 27 = .ok (.aload_n 1, 1) := by decide +kernel
theorem d_MPath_copy_28 : decode b_MPath_copy 28 = .ok (.getfield 9, 3) := by decide +kernel
theorem d_MPath_copy_31 : decode b_MPath_copy 31 = .ok (.iload_n 2, 1) := by decide +kernel
theorem d_MPath_copy_32 : decode b_MPath_copy 32 = .ok (.baload, 1) := by decide +kernel
theorem d_MPath_copy_33 : decode b_MPath_copy 33 = .ok (.bastore, 1) := by decide +kernel
theorem d_MPath_copy_34 : decode b_MPath_copy 34 = .ok (.iinc 2 1, 3) := by decide +kernel
theorem d_MPath_copy_37 : decode b_MPath_copy 37 = .ok (.goto (-23), 3) := by decide +kernel
theorem d_MPath_copy_40 : decode b_MPath_copy 40 = .ok (.iconst 0, 1) := by decide +kernel
theorem d_MPath_copy_41 : decode b_MPath_copy 41 = .ok (.istore_n 2, 1) := by decide +kernel
theorem d_MPath_copy_42 : decode b_MPath_copy 42 = .ok (.iload_n 2, 1) := by decide +kernel
theorem d_MPath_copy_43 : decode b_MPath_copy 43 = .ok (.bipush 6, 2) := by decide +kernel
theorem d_MPath_copy_45 : decode b_MPath_copy 45 = .ok (.aload_n 0, 1) := by decide +kernel
theorem d_MPath_copy_46 : decode b_MPath_copy 46 = .ok (.getfield 19, 3) := by decide +kernel
theorem d_MPath_copy_49 : decode b_MPath_copy 49 = .ok (.imul, 1) := by decide +kernel
theorem d_MPath_copy_50 : decode b_MPath_copy 50 = .ok (.if_icmp .ge 21, 3) := by decide +kernel
theorem d_MPath_copy_53 : decode b_MPath_copy 53 = .ok (.aload_n 0, 1) := by decide +kernel
theorem d_MPath_copy_54 : decode b_MPath_copy 54 = .ok (.getfield 15, 3) := by decide +kernel
theorem d_MPath_copy_57 : decode b_MPath_copy 57 = .ok (.iload_n 2, 1) := by decide +kernel
theorem d_MPath_copy_58 : decode b_MPath_copy 58 = .ok (.aload_n 1, 1) := by decide +kernel
theorem d_MPath_copy_59 : decode b_MPath_copy 59 = .ok (.getfield 15, 3) := by decide +kernel
theorem d_MPath_copy_62 : decode b_MPath_copy 62 = .ok (.iload_n 2, 1) := by decide +kernel
theorem d_MPath_copy_63 : decode b_MPath_copy 63 = .ok (.iaload, 1) := by decide +kernel
theorem d_MPath_copy_64 : decode b_MPath_copy 64 = .ok (.iastore, 1) := by decide +kernel
theorem d_MPath_copy_65 : decode b_MPath_copy 65 = .ok (.iinc 2 1, 3) := by decide +kernel
theorem d_MPath_copy_68 : decode b_MPath_copy 68 = .ok (.goto (-26), 3) := by decide +kernel
theorem d_MPath_copy_71 : decode b_MPath_copy 71 = .ok (.return_, 1) := by decide +kernel
theorem d_MPath_get_0 : decode b_MPath_get 0 = .ok (.aload_n 0, 1) := by decide +kernel
theorem d_MPath_get_1 : decode b_MPath_get 1 = .ok (.getfield 15, 3) := by decide +kernel
theorem d_MPath_get_4 : decode b_MPath_get 4 = .ok (.bipush 6, 2) := by decide +kernel
theorem d_MPath_get_6 : decode b_MPath_get 6 = .ok (.iload_n 1, 1) := by decide +kernel
theorem d_MPath_get_7 : decode b_MPath_get 7 = .ok (.imul, 1) := by decide +kernel
theorem d_MPath_get_8 : decode b_MPath_get 8 = .ok (.iload_n 2, 1) := by decide +kernel
theorem d_MPath_get_9 : decode b_MPath_get 9 = .ok (.iadd, 1) := by decide +kernel
theorem d_MPath_get_10 : decode b_MPath_get 10 = .ok (.iaload, 1) := by decide +kernel
theorem d_MPath_get_11 : decode b_MPath_get 11 = .ok (.ireturn, 1) := by decide +kernel
theorem d_MPath_isFar_0 : decode b_MPath_isFar 0 = .ok (.lload_n 0, 1) := by decide +kernel
theorem d_MPath_isFar_1 : decode b_MPath_isFar 1 = .ok (.ldc2_w 33, 3) := by decide +kernel
theorem d_MPath_isFar_4 : decode b_MPath_isFar 4 = .ok (.lcmp, 1) := by decide +kernel
theorem d_MPath_isFar_5 : decode b_MPath_isFar 5 = .ok (.ifCond .lt 11, 3) := by decide +kernel
theorem d_MPath_isFar_8 : decode b_MPath_isFar 8 = .ok (.lload_n 0, 1) := by decide +kernel
theorem d_MPath_isFar_9 : decode b_MPath_isFar 9 = .ok (.ldc2_w 35, 3) := by decide +kernel
theorem d_MPath_isFar_12 : decode b_MPath_isFar 12 = .ok (.lcmp, 1) := by decide +kernel
theorem d_MPath_isFar_13 : decode b_MPath_isFar 13 = .ok (.ifCond .le 7, 3) := by decide +kernel
theorem d_MPath_isFar_16 : decode b_MPath_isFar 16 = .ok (.iconst 1, 1) := by decide +kernel
theorem d_MPath_isFar_17 : decode b_MPath_isFar 17 = .ok (.goto 4, 3) := by decide +kernel
theorem d_MPath_isFar_20 : decode b_MPath_isFar 20 = .ok (.iconst 0, 1) := by decide +kernel
theorem d_MPath_isFar_21 : decode b_MPath_isFar 21 = .ok (.ireturn, 1) := by decide +kernel
theorem d_MPath_add_0 : decode b_MPath_add 0 = .ok (.aload_n 0, 1) := by decide +kernel
theorem d_MPath_add_1 : decode b_MPath_add 1 = .ok (.aload_n 0, 1) := by decide +kernel
theorem d_MPath_add_2 : decode b_MPath_add 2 = .ok (.getfield 27, 3) := by decide +kernel
theorem d_MPath_add_5 : decode b_MPath_add 5 = .ok (.ifCond .ne 50, 3) := by decide +kernel
theorem d_MPath_add_8 : decode b_MPath_add 8 = .ok (.lload_n 2, 1) := by decide +kernel
theorem d_MPath_add_9 : decode b_MPath_add 9 = .ok (.invokestatic 37, 3) := by decide +kernel
theorem d_MPath_add_12 : decode b_MPath_add 12 = .ok (.ifCond .ne 43, 3) := by decide +kernel
theorem d_MPath_add_15 : decode b_MPath_add 15 = .ok (.lload 4, 2) := by decide +kernel
theorem d_MPath_add_17 : decode b_MPath_add 17 = .ok (.invokestatic 37, 3) := by decide +kernel
theorem d_MPath_add_20 : decode b_MPath_add 20 = .ok (.ifCond .ne 35, 3) := by decide +kernel
theorem d_MPath_add_23 : decode b_MPath_add 23 = .ok (.lload 6, 2) := by decide +kernel
theorem d_MPath_add_25 : decode b_MPath_add 25 = .ok (.invokestatic 37, 3) := by decide +kernel
theorem d_MPath_add_28 : decode b_MPath_add 28 = .ok (.ifCond .ne 27, 3) := by decide +kernel
theorem d_MPath_add_31 : decode b_MPath_add 31 = .ok (.lload 8, 2) := by decide +kernel
theorem d_MPath_add_33 : decode b_MPath_add 33 = .ok (.invokestatic 37, 3) := by decide +kernel
theorem d_MPath_add_36 : decode b_MPath_add 36 = .ok (.ifCond .ne 19, 3) := by decide +kernel
theorem d_MPath_add_39 : decode b_MPath_add 39 = .ok (.lload 10, 2) := by decide +kernel
theorem d_MPath_add_41 : decode b_MPath_add 41 = .ok (.invokestatic 37, 3) := by decide +kernel
theorem d_MPath_add_44 : decode b_MPath_add 44 = .ok (.ifCond .ne 11, 3) := by decide +kernel
theorem d_MPath_add_47 : decode b_MPath_add 47 = .ok (.lload 12, 2) := by decide +kernel
theorem d_MPath_add_49 : decode b_MPath_add 49 = .ok (.invokestatic 37, 3) := by decide +kernel
theorem d_MPath_add_52 : decode b_MPath_add 52 = .ok (.ifCond .eq 7, 3) := by decide +kernel
theorem d_MPath_add_55 : decode b_MPath_add 55 = .ok (.iconst 1, 1) := by decide +kernel
theorem d_MPath_add_56 : decode b_MPath_add 56 = .ok (.goto 4, 3) := by decide +kernel
theorem d_MPath_add_59 : decode b_MPath_add 59 = .ok (.iconst 0, 1) := by decide +kernel
theorem d_MPath_add_60 : decode b_MPath_add 60 = .ok (.putfield 27, 3) := by decide +kernel
theorem d_MPath_add_63 : decode b_MPath_add 63 = .ok (.aload_n 0, 1) := by decide +kernel
theorem d_MPath_add_64 : decode b_MPath_add 64 = .ok (.getfield 19, 3) := by decide +kernel
theorem d_MPath_add_67 : decode b_MPath_add 67 = .ok (.sipush 3000, 3) := by decide +kernel
theorem d_MPath_add_70 : decode b_MPath_add 70 = .ok (.if_icmp .ne 9, 3) := by decide +kernel
theorem d_MPath_add_73 : decode b_MPath_add 73 = .ok (.aload_n 0, 1) := by decide +kernel
theorem d_MPath_add_74 : decode b_MPath_add 74 = .ok (.iconst 1, 1) := by decide +kernel
theorem d_MPath_add_75 : decode b_MPath_add 75 = .ok (.putfield 23, 3) := by decide +kernel
theorem d_MPath_add_78 : decode b_MPath_add 78 = .ok (.return_, 1) := by decide +kernel
theorem d_MPath_add_79 : decode b_MPath_add 79 = .ok (.aload_n 0, 1) := by decide +kernel
theorem d_MPath_add_80 : decode b_MPath_add 80 = .ok (.getfield 9, 3) := by decide +kernel
theorem d_MPath_add_83 : decode b_MPath_add 83 = .ok (.aload_n 0, 1) := by decide +kernel
theorem d_MPath_add_84 : decode b_MPath_add 84 = .ok (.getfield 19, 3) := by decide +kernel
theorem d_MPath_add_87 : decode b_MPath_add 87 = .ok (.iload_n 1, 1) := by decide +kernel
theorem d_MPath_add_88 : decode b_MPath_add 88 = .ok (.i2b, 1) := by decide +kernel
theorem d_MPath_add_89 : decode b_MPath_add 89 = .ok (.bastore, 1) := by decide +kernel
theorem d_MPath_add_90 : decode b_MPath_add 90 = .ok (.aload_n 0, 1) := by decide +kernel
theorem d_MPath_add_91 : decode b_MPath_add 91 = .ok (.getfield 15, 3) := by decide +kernel
theorem d_MPath_add_94 : decode b_MPath_add 94 = .ok (.bipush 6, 2) := by decide +kernel
theorem d_MPath_add_96 : decode b_MPath_add 96 = .ok (.aload_n 0, 1) := by decide +kernel
theorem d_MPath_add_97 : decode b_MPath_add 97 = .ok (.getfield 19, 3) := by decide +kernel
theorem d_MPath_add_100 : decode b_MPath_add 100 = .ok (.imul, 1) := by decide +kernel
theorem d_MPath_add_101 : decode b_MPath_add 101 = .ok (.lload_n 2, 1) := by decide +kernel
theorem d_MPath_add_102 : decode b_MPath_add 102 = .ok (.l2i, 1) := by decide +kernel
theorem d_MPath_add_103 : decode b_MPath_add 103 = .ok (.iastore, 1) := by decide +kernel
theorem d_MPath_add_104 : decode b_MPath_add 104 = .ok (.aload_n 0, 1) := by decide +kernel
theorem d_MPath_add_105 : decode b_MPath_add 105 = .ok (.getfield 15, 3) := by decide +kernel
theorem d_MPath_add_108 : decode b_MPath_add 108 = .ok (.bipush 6, 2) := by decide +kernel
theorem d_MPath_add_110 : decode b_MPath_add 110 = .ok (.aload_n 0, 1) := by decide +kernel
theorem d_MPath_add_111 : decode b_MPath_add 111 = .ok (.getfield 19, 3) := by decide +kernel
theorem d_MPath_add_114 : decode b_MPath_add 114 = .ok (.imul, 1) := by decide +kernel
theorem d_MPath_add_115 : decode b_MPath_add 115 = .ok (.iconst 1, 1) := by decide +kernel
theorem d_MPath_add_116 : decode b_MPath_add 116 = .ok (.iadd, 1) := by decide +kernel
theorem d_MPath_add_117 : decode b_MPath_add 117 = .ok (.lload 4, 2) := by decide +kernel
theorem d_MPath_add_119 : decode b_MPath_add 119 = .ok (.l2i, 1) := by decide +kernel
theorem d_MPath_add_120 : decode b_MPath_add 120 = .ok (.iastore, 1) := by decide +kernel
theorem d_MPath_add_121 : decode b_MPath_add 121 = .ok (.aload_n 0, 1) := by decide +kernel
theorem d_MPath_add_122 : decode b_MPath_add 122 = .ok (.getfield 15, 3) := by decide +kernel
theorem d_MPath_add_125 : decode b_MPath_add 125 = .ok (.bipush 6, 2) := by decide +kernel
theorem d_MPath_add_127 : decode b_MPath_add 127 = .ok (.aload_n 0, 1) := by decide +kernel
theorem d_MPath_add_128 : decode b_MPath_add 128 = .ok (.getfield 19, 3) := by decide +kernel
theorem d_MPath_add_131 : decode b_MPath_add 131 = .ok (.imul, 1) := by decide +kernel
theorem d_MPath_add_132 : decode b_MPath_add 132 = .ok (.iconst 2, 1) := by decide +kernel
theorem d_MPath_add_133 : decode b_MPath_add 133 = .ok (.iadd, 1) := by decide +kernel
theorem d_MPath_add_134 : decode b_MPath_add 134 = .ok (.lload 6, 2) := by decide +kernel
theorem d_MPath_add_136 : decode b_MPath_add 136 = .ok (.l2i, 1) := by decide +kernel
theorem d_MPath_add_137 : decode b_MPath_add 137 = .ok (.iastore, 1) := by decide +kernel
theorem d_MPath_add_138 : decode b_MPath_add 138 = .ok (.aload_n 0, 1) := by decide +kernel
theorem d_MPath_add_139 : decode b_MPath_add 139 = .ok (.getfield 15, 3) := by decide +kernel
theorem d_MPath_add_142 : decode b_MPath_add 142 = .ok (.bipush 6, 2) := by decide +kernel
theorem d_MPath_add_144 : decode b_MPath_add 144 = .ok (.aload_n 0, 1) := by decide +kernel
theorem d_MPath_add_145 : decode b_MPath_add 145 = .ok (.getfield 19, 3) := by decide +kernel
theorem d_MPath_add_148 : decode b_MPath_add 148 = .ok (.imul, 1) := by decide +kernel
theorem d_MPath_add_149 : decode b_MPath_add 149 = .ok (.iconst 3, 1) := by decide +kernel
theorem d_MPath_add_150 : decode b_MPath_add 150 = .ok (.iadd, 1) := by decide +kernel
theorem d_MPath_add_151 : decode b_MPath_add 151 = .ok (.lload 8, 2) := by decide +kernel
theorem d_MPath_add_153 : decode b_MPath_add 153 = .ok (.l2i, 1) := by decide +kernel
theorem d_MPath_add_154 : decode b_MPath_add 154 = .ok (.iastore, 1) := by decide +kernel
theorem d_MPath_add_155 : decode b_MPath_add 155 = .ok (.aload_n 0, 1) := by decide +kernel
theorem d_MPath_add_156 : decode b_MPath_add 156 = .ok (.getfield 15, 3) := by decide +kernel
theorem d_MPath_add_159 : decode b_MPath_add 159 = .ok (.bipush 6, 2) := by decide +kernel
theorem d_MPath_add_161 : decode b_MPath_add 161 = .ok (.aload_n 0, 1) := by decide +kernel
theorem d_MPath_add_162 : decode b_MPath_add 162 = .ok (.getfield 19, 3) := by decide +kernel
theorem d_MPath_add_165 : decode b_MPath_add 165 = .ok (.imul, 1) := by decide +kernel
theorem d_MPath_add_166 : decode b_MPath_add 166 = .ok (.iconst 4, 1) := by decide +kernel
theorem d_MPath_add_167 : decode b_MPath_add 167 = .ok (.iadd, 1) := by decide +kernel
theorem d_MPath_add_168 : decode b_MPath_add 168 = .ok (.lload 10, 2) := by decide +kernel
theorem d_MPath_add_170 : decode b_MPath_add 170 = .ok (.l2i, 1) := by decide +kernel
theorem d_MPath_add_171 : decode b_MPath_add 171 = .ok (.iastore, 1) := by decide +kernel
theorem d_MPath_add_172 : decode b_MPath_add 172 = .ok (.aload_n 0, 1) := by decide +kernel
theorem d_MPath_add_173 : decode b_MPath_add 173 = .ok (.getfield 15, 3) := by decide +kernel
theorem d_MPath_add_176 : decode b_MPath_add 176 = .ok (.bipush 6, 2) := by decide +kernel
theorem d_MPath_add_178 : decode b_MPath_add 178 = .ok (.aload_n 0, 1) := by decide +kernel
theorem d_MPath_add_179 : decode b_MPath_add 179 = .ok (.getfield 19, 3) := by decide +kernel
theorem d_MPath_add_182 : decode b_MPath_add 182 = .ok (.imul, 1) := by decide +kernel
theorem d_MPath_add_183 : decode b_MPath_add 183 = .ok (.iconst 5, 1) := by decide +kernel
theorem d_MPath_add_184 : decode b_MPath_add 184 = .ok (.iadd, 1) := by decide +kernel
theorem d_MPath_add_185 : decode b_MPath_add 185 = .ok (.lload 12, 2) := by decide +kernel
theorem d_MPath_add_187 : decode b_MPath_add 187 = .ok (.l2i, 1) := by decide +kernel
theorem d_MPath_add_188 : decode b_MPath_add 188 = .ok (.iastore, 1) := by decide +kernel
theorem d_MPath_add_189 : decode b_MPath_add 189 = .ok (.aload_n 0, 1) := by decide +kernel
theorem d_MPath_add_190 : decode b_MPath_add 190 = .ok (.dup, 1) := by decide +kernel
theorem d_MPath_add_191 : decode b_MPath_add 191 = .ok (.getfield 19, 3) := by decide +kernel
theorem d_MPath_add_194 : decode b_MPath_add 194 = .ok (.iconst 1, 1) := by decide +kernel
theorem d_MPath_add_195 : decode b_MPath_add 195 = .ok (.iadd, 1) := by decide +kernel
theorem d_MPath_add_196 : decode b_MPath_add 196 = .ok (.putfield 19, 3) := by decide +kernel
theorem d_MPath_add_199 : decode b_MPath_add 199 = .ok (.return_, 1) := by decide +kernel
theorem d_MPath_addPoint_0 : decode b_MPath_addPoint 0 = .ok (.aload_n 0, 1) := by decide +kernel
theorem d_MPath_addPoint_1 : decode b_MPath_addPoint 1 = .ok (.iload_n 1, 1) := by decide +kernel
theorem d_MPath_addPoint_2 : decode b_MPath_addPoint 2 = .ok (.lload_n 2, 1) := by decide +kernel
theorem d_MPath_addPoint_3 : decode b_MPath_addPoint 3 = .ok (.lload 4, 2) := by decide +kernel
theorem d_MPath_addPoint_5 : decode b_MPath_addPoint 5 = .ok (.lconst 0, 1) := by decide +kernel
theorem d_MPath_addPoint_6 : decode b_MPath_addPoint 6 = .ok (.lconst 0, 1) := by decide +kernel
theorem d_MPath_addPoint_7 : decode b_MPath_addPoint 7 = .ok (.lconst 0, 1) := by decide +kernel
theorem d_MPath_addPoint_8 : decode b_MPath_addPoint 8 = .ok (.lconst 0, 1) := by decide +kernel
theorem d_MPath_addPoint_9 : decode b_MPath_addPoint 9 = .ok (.invokevirtual 41, 3) := by decide +kernel
theorem d_MPath_addPoint_12 : decode b_MPath_addPoint 12 = .ok (.return_, 1) := by decide +kernel
theorem d_MPath_first_0 : decode b_MPath_first 0 = .ok (.iload_n 1, 1) := by decide +kernel
theorem d_MPath_first_1 : decode b_MPath_first 1 = .ok (.istore_n 2, 1) := by decide +kernel
theorem d_MPath_first_2 : decode b_MPath_first 2 = .ok (.aload_n 0, 1) := by decide +kernel
theorem d_MPath_first_3 : decode b_MPath_first 3 = .ok (.getfield 9, 3) := by decide +kernel
theorem d_MPath_first_6 : decode b_MPath_first 6 = .ok (.iload_n 2, 1) := by decide +kernel
theorem d_MPath_first_7 : decode b_MPath_first 7 = .ok (.baload, 1) := by decide +kernel
theorem d_MPath_first_8 : decode b_MPath_first 8 = .ok (.ifCond .eq 9, 3) := by decide +kernel
theorem d_MPath_first_11 : decode b_MPath_first 11 = .ok (.iinc 2 (-1), 3) := by decide +kernel
theorem d_MPath_first_14 : decode b_MPath_first 14 = .ok (.goto (-12), 3) := by decide +kernel
theorem d_MPath_first_17 : decode b_MPath_first 17 = .ok (.iload_n 2, 1) := by decide +kernel
theorem d_MPath_first_18 : decode b_MPath_first 18 = .ok (.ireturn, 1) := by decide +kernel
theorem d_MPath_open_0 : decode b_MPath_open 0 = .ok (.aload_n 0, 1) := by decide +kernel
theorem d_MPath_open_1 : decode b_MPath_open 1 = .ok (.getfield 19, 3) := by decide +kernel
theorem d_MPath_open_4 : decode b_MPath_open 4 = .ok (.ifCond .le 47, 3) := by decide +kernel
theorem d_MPath_open_7 : decode b_MPath_open 7 = .ok (.aload_n 0, 1) := by decide +kernel
theorem d_MPath_open_8 : decode b_MPath_open 8 = .ok (.getfield 9, 3) := by decide +kernel
theorem d_MPath_open_11 : decode b_MPath_open 11 = .ok (.aload_n 0, 1) := by decide +kernel
theorem d_MPath_open_12 : decode b_MPath_open 12 = .ok (.getfield 19, 3) := by decide +kernel
theorem d_MPath_open_15 : decode b_MPath_open 15 = .ok (.iconst 1, 1) := by decide +kernel
theorem d_MPath_open_16 : decode b_MPath_open 16 = .ok (.isub, 1) := by decide +kernel
theorem d_MPath_open_17 : decode b_MPath_open 17 = .ok (.baload, 1) := by decide +kernel
theorem d_MPath_open_18 : decode b_MPath_open 18 = .ok (.iconst 3, 1) := by decide +kernel
theorem d_MPath_open_19 : decode b_MPath_open 19 = .ok (.if_icmp .ne 32, 3) := by decide +kernel
theorem d_MPath_open_22 : decode b_MPath_open 22 = .ok (.aload_n 0, 1) := by decide +kernel
theorem d_MPath_open_23 : decode b_MPath_open 23 = .ok (.iconst 0, 1) := by decide +kernel
theorem d_MPath_open_24 : decode b_MPath_open 24 = .ok (.aload_n 0, 1) := by decide +kernel
theorem d_MPath_open_25 : decode b_MPath_open 25 = .ok (.aload_n 0, 1) := by decide +kernel
theorem d_MPath_open_26 : decode b_MPath_open 26 = .ok (.getfield 19, 3) := by decide +kernel
theorem d_MPath_open_29 : decode b_MPath_open 29 = .ok (.iconst 1, 1) := by decide +kernel
theorem d_MPath_open_30 : decode b_MPath_open 30 = .ok (.isub, 1) := by decide +kernel
theorem d_MPath_open_31 : decode b_MPath_open 31 = .ok (.iconst 0, 1) := by decide +kernel
theorem d_MPath_open_32 : decode b_MPath_open 32 = .ok (.invokevirtual 45, 3) := by decide +kernel
theorem d_MPath_open_35 : decode b_MPath_open 35 = .ok (.i2l, 1) := by decide +kernel
theorem d_MPath_open_36 : decode b_MPath_open 36 = .ok (.aload_n 0, 1) := by decide +kernel
theorem d_MPath_open_37 : decode b_MPath_open 37 = .ok (.aload_n 0, 1) := by decide +kernel
theorem d_MPath_open_38 : decode b_MPath_open 38 = .ok (.getfield 19, 3) := by decide +kernel
theorem d_MPath_open_41 : decode b_MPath_open 41 = .ok (.iconst 1, 1) := by decide +kernel
theorem d_MPath_open_42 : decode b_MPath_open 42 = .ok (.isub, 1) := by decide +kernel
theorem d_MPath_open_43 : decode b_MPath_open 43 = .ok (.iconst 1, 1) := by decide +kernel
theorem d_MPath_open_44 : decode b_MPath_open 44 = .ok (.invokevirtual 45, 3) := by decide +kernel
theorem d_MPath_open_47 : decode b_MPath_open 47 = .ok (.i2l, 1) := by decide +kernel
theorem d_MPath_open_48 : decode b_MPath_open 48 = .ok (.invokevirtual 49, 3) := by decide +kernel
theorem d_MPath_open_51 : decode b_MPath_open 51 = .ok (.return_, 1) := by decide +kernel
theorem d_MPath_begin_0 : decode b_MPath_begin 0 = .ok (.aload_n 0, 1) := by decide +kernel
theorem d_MPath_begin_1 : decode b_MPath_begin 1 = .ok (.getfield 19, 3) := by decide +kernel
theorem d_MPath_begin_4 : decode b_MPath_begin 4 = .ok (.ifCond .le 27, 3) := by decide +kernel
theorem d_MPath_begin_7 : decode b_MPath_begin 7 = .ok (.aload_n 0, 1) := by decide +kernel
theorem d_MPath_begin_8 : decode b_MPath_begin 8 = .ok (.getfield 9, 3) := by decide +kernel
theorem d_MPath_begin_11 : decode b_MPath_begin 11 = .ok (.aload_n 0, 1) := by decide +kernel
theorem d_MPath_begin_12 : decode b_MPath_begin 12 = .ok (.getfield 19, 3) := by decide +kernel
theorem d_MPath_begin_15 : decode b_MPath_begin 15 = .ok (.iconst 1, 1) := by decide +kernel
theorem d_MPath_begin_16 : decode b_MPath_begin 16 = .ok (.isub, 1) := by decide +kernel
theorem d_MPath_begin_17 : decode b_MPath_begin 17 = .ok (.baload, 1) := by decide +kernel
theorem d_MPath_begin_18 : decode b_MPath_begin 18 = .ok (.ifCond .ne 13, 3) := by decide +kernel
theorem d_MPath_begin_21 : decode b_MPath_begin 21 = .ok (.aload_n 0, 1) := by decide +kernel
theorem d_MPath_begin_22 : decode b_MPath_begin 22 = .ok (.dup, 1) := by decide +kernel
theorem d_MPath_begin_23 : decode b_MPath_begin 23 = .ok (.getfield 19, 3) := by decide +kernel
theorem d_MPath_begin_26 : decode b_MPath_begin 26 = .ok (.iconst 1, 1) := by decide +kernel
theorem d_MPath_begin_27 : decode b_MPath_begin 27 = .ok (.isub, 1) := by decide +kernel
theorem d_MPath_begin_28 : decode b_MPath_begin 28 = .ok (.putfield 19, 3) := by decide +kernel
theorem d_MPath_begin_31 : decode b_MPath_begin 31 = .ok (.aload_n 0, 1) := by decide +kernel
theorem d_MPath_begin_32 : decode b_MPath_begin 32 = .ok (.iconst 0, 1) := by decide +kernel
theorem d_MPath_begin_33 : decode b_MPath_begin 33 = .ok (.lload_n 1, 1) := by decide +kernel
theorem d_MPath_begin_34 : decode b_MPath_begin 34 = .ok (.lload_n 3, 1) := by decide +kernel
theorem d_MPath_begin_35 : decode b_MPath_begin 35 = .ok (.invokevirtual 49, 3) := by decide +kernel
theorem d_MPath_begin_38 : decode b_MPath_begin 38 = .ok (.return_, 1) := by decide +kernel
end
section
set_option maxHeartbeats 4000000 in
set_option maxRecDepth 100000 in
/-- Path(): two new rows -/
theorem c_MPath_init (l : Launch) (D : va_G) (cI cB cJ : ClassId) (qQ : Nat) (h : Nat)  : ct l D cl [(cI, .int), (cB, .byte), (cJ, .long)] (amb qQ) y_MPath_init w_MPath_init 1 12 (2) (21000) [.ref h] [(h, .inr (6, [.null, .null, .int 0, .int 0, .int 0]))] (fun u_ : Nat × Nat => match u_ with | (qk, qp) => True) (fun u_ : Nat × Nat => match u_ with | (qk, qp) => none) (fun u_ : Nat × Nat => match u_ with | (qk, qp) => [(h, .inr (6, [.ref qk, .ref qp, .int (nI 0), .int (bz false), .int (bz false)])), (qk, .inl (cB, 3000, .inl (fun _ => 0))), (qp, .inl (cI, 18000, .inl (fun _ => 0)))]) := by
  refine ct_ofW (cc := b_MPath_init) (maxL := 1) (ret := none) (by decide) rfl (Nat.le_of_ble_eq_true rfl) ?_
  intro p e R s m args below meth c A Q ls hx hb hr hml hts hown hlocks hname hRf hRc hRs hRl hQ hK hP hD hS hA hM hl
  have hl : lv_has ls 1 [(0, .ref h)] := hl
  refine lv_aload_n hx hb d_MPath_init_0 rfl (lv_at hl 0 rfl) ?_
  refine W.objInit hx hb hown (hts _ (gwc gw_506)) (hts _ (gwc gw_44)) (hts _ (gwc gw_objc)) rfl (by rw [hml]; exact hl.1) rfl d_MPath_init_1 (by omega) (by rw [hRl]; exact Nat.le_of_ble_eq_true rfl) ?_
  refine W.eq (g2 := F0 m 4 ls []) rfl ?_
  refine lv_aload_n hx hb d_MPath_init_4 rfl (lv_at hl 0 rfl) ?_
  refine lv_sipush (v := 3000) hx hb d_MPath_init_5 (by decide) ?_
  refine na_b hx hb (hts _ (gwc gw_527)) hK hP hD hS hA 1 rfl 3000 (by omega) (by omega) (by omega) d_MPath_init_8 (fun q_1 H hP hD hS => ?_)
  have hP : va_P D cl [(h, .inr (6, [.null, .null, .int 0, .int 0, .int 0])), (q_1, .inl (cB, 3000, .inl (fun _ => 0)))] H := hP
  have hD : va_D A [(h, .inr (6, [.null, .null, .int 0, .int 0, .int 0])), (q_1, .inl (cB, 3000, .inl (fun _ => 0)))] := hD
  refine va_putF (D := D) (ci := 6) (v := .ref q_1) (ty := (.array .byte)) (C := R_MPath) (T := T_MPath) (N := 5) hx hb hts (ui_MPath _) t_MPath tk_MPath nk_MPath hown hK hP hD hS 0 rfl rfl 0 (by decide) (hts _ (gwc gw_507)) (fun _ h9 => h9) rfl hname rfl (by decide +kernel) rfl rfl (Nat.le_of_ble_eq_true rfl) d_MPath_init_10 (fun H locs hP hD hS => ?_)
  have hP : va_P D cl [(h, .inr (6, [.ref q_1, .null, .int 0, .int 0, .int 0])), (q_1, .inl (cB, 3000, .inl (fun _ => 0)))] H := hP
  have hD : va_D A [(h, .inr (6, [.ref q_1, .null, .int 0, .int 0, .int 0])), (q_1, .inl (cB, 3000, .inl (fun _ => 0)))] := hD
  refine lv_aload_n hx hb d_MPath_init_13 rfl (lv_at hl 0 rfl) ?_
  refine lv_sipush (v := 18000) hx hb d_MPath_init_14 (by decide) ?_
  refine na_i hx hb (hts _ (gwc gw_89)) hK hP hD hS hA 0 rfl 18000 (by omega) (by omega) (by omega) d_MPath_init_17 (fun q_2 H hP hD hS => ?_)
  have hP : va_P D cl [(h, .inr (6, [.ref q_1, .null, .int 0, .int 0, .int 0])), (q_1, .inl (cB, 3000, .inl (fun _ => 0))), (q_2, .inl (cI, 18000, .inl (fun _ => 0)))] H := hP
  have hD : va_D A [(h, .inr (6, [.ref q_1, .null, .int 0, .int 0, .int 0])), (q_1, .inl (cB, 3000, .inl (fun _ => 0))), (q_2, .inl (cI, 18000, .inl (fun _ => 0)))] := hD
  refine va_putF (D := D) (ci := 6) (v := .ref q_2) (ty := (.array .int)) (C := R_MPath) (T := T_MPath) (N := 5) hx hb hts (ui_MPath _) t_MPath tk_MPath nk_MPath hown hK hP hD hS 0 rfl rfl 1 (by decide) (hts _ (gwc gw_509)) (fun _ h9 => h9) rfl hname rfl (by decide +kernel) rfl rfl (Nat.le_of_ble_eq_true rfl) d_MPath_init_19 (fun H locs hP hD hS => ?_)
  have hP : va_P D cl [(h, .inr (6, [.ref q_1, .ref q_2, .int 0, .int 0, .int 0])), (q_1, .inl (cB, 3000, .inl (fun _ => 0))), (q_2, .inl (cI, 18000, .inl (fun _ => 0)))] H := hP
  have hD : va_D A [(h, .inr (6, [.ref q_1, .ref q_2, .int 0, .int 0, .int 0])), (q_1, .inl (cB, 3000, .inl (fun _ => 0))), (q_2, .inl (cI, 18000, .inl (fun _ => 0)))] := hD
  exact ct_retv hQ hx hb hr hlocks hP hD hS (q_1, q_2) [(h, .inr (6, [.ref q_1, .ref q_2, .int 0, .int 0, .int 0])), (q_1, .inl (cB, 3000, .inl (fun _ => 0))), (q_2, .inl (cI, 18000, .inl (fun _ => 0)))] [0, 1, 2] (rfl) (trivial) (rfl) rfl rfl (by omega) (by omega) d_MPath_init_22
set_option maxHeartbeats 4000000 in
set_option maxRecDepth 100000 in
/-- empty(): size 0, not full, not far -/
theorem c_MPath_empty (l : Launch) (D : va_G) (cI cB cJ : ClassId) (qQ : Nat) (h : Nat) (qk : Nat) (qp : Nat) (n : Nat) (K : Nat → Int32) (P : Nat → Int32) (fu : Bool) (fa : Bool)  : ct l D cl [(cI, .int), (cB, .byte), (cJ, .long)] (amb qQ) y_MPath_empty w_MPath_empty 0 0 (0) (0) [.ref h] [(h, .inr (6, [.ref qk, .ref qp, .int (nI n), .int (bz fu), .int (bz fa)])), (qk, .inl (cB, 3000, .inl K)), (qp, .inl (cI, 18000, .inl P))] (fun _ : Unit => True) (fun _ : Unit => none) (fun _ : Unit => [(h, .inr (6, [.ref qk, .ref qp, .int (nI 0), .int (bz false), .int (bz false)])), (qk, .inl (cB, 3000, .inl K)), (qp, .inl (cI, 18000, .inl P))]) := by
  refine ct_ofW (cc := b_MPath_empty) (maxL := 1) (ret := none) (by decide) rfl (Nat.le_of_ble_eq_true rfl) ?_
  intro p e R s m args below meth c A Q ls hx hb hr hml hts hown hlocks hname hRf hRc hRs hRl hQ hK hP hD hS hA hM hl
  have hl : lv_has ls 1 [(0, .ref h)] := hl
  refine lv_aload_n hx hb d_MPath_empty_0 rfl (lv_at hl 0 rfl) ?_
  refine lv_iconst (v := 0) hx hb d_MPath_empty_1 (by decide) ?_
  refine va_put (D := D) (ci := 6) (v := .int 0) (ty := .int) (C := R_MPath) (T := T_MPath) (N := 5) hx hb hts (ui_MPath _) t_MPath tk_MPath nk_MPath hown hK hP hD hS 0 rfl rfl 2 (by decide) (hts _ (gwc gw_510)) (fun _ h9 => h9) rfl (by decide +kernel) rfl rfl (Nat.le_of_ble_eq_true rfl) d_MPath_empty_2 (fun H locs hP hD hS => ?_)
  have hP : va_P D cl [(h, .inr (6, [.ref qk, .ref qp, .int 0, .int (bz fu), .int (bz fa)])), (qk, .inl (cB, 3000, .inl K)), (qp, .inl (cI, 18000, .inl P))] H := hP
  have hD : va_D A [(h, .inr (6, [.ref qk, .ref qp, .int 0, .int (bz fu), .int (bz fa)])), (qk, .inl (cB, 3000, .inl K)), (qp, .inl (cI, 18000, .inl P))] := hD
  refine lv_aload_n hx hb d_MPath_empty_5 rfl (lv_at hl 0 rfl) ?_
  refine lv_iconst (v := 0) hx hb d_MPath_empty_6 (by decide) ?_
  refine va_put (D := D) (ci := 6) (v := .int 0) (ty := .boolean) (C := R_MPath) (T := T_MPath) (N := 5) hx hb hts (ui_MPath _) t_MPath tk_MPath nk_MPath hown hK hP hD hS 0 rfl rfl 3 (by decide) (hts _ (gwc gw_512)) (fun _ h9 => h9) rfl (by decide +kernel) rfl rfl (Nat.le_of_ble_eq_true rfl) d_MPath_empty_7 (fun H locs hP hD hS => ?_)
  have hP : va_P D cl [(h, .inr (6, [.ref qk, .ref qp, .int 0, .int 0, .int (bz fa)])), (qk, .inl (cB, 3000, .inl K)), (qp, .inl (cI, 18000, .inl P))] H := hP
  have hD : va_D A [(h, .inr (6, [.ref qk, .ref qp, .int 0, .int 0, .int (bz fa)])), (qk, .inl (cB, 3000, .inl K)), (qp, .inl (cI, 18000, .inl P))] := hD
  refine lv_aload_n hx hb d_MPath_empty_10 rfl (lv_at hl 0 rfl) ?_
  refine lv_iconst (v := 0) hx hb d_MPath_empty_11 (by decide) ?_
  refine va_put (D := D) (ci := 6) (v := .int 0) (ty := .boolean) (C := R_MPath) (T := T_MPath) (N := 5) hx hb hts (ui_MPath _) t_MPath tk_MPath nk_MPath hown hK hP hD hS 0 rfl rfl 4 (by decide) (hts _ (gwc gw_515)) (fun _ h9 => h9) rfl (by decide +kernel) rfl rfl (Nat.le_of_ble_eq_true rfl) d_MPath_empty_12 (fun H locs hP hD hS => ?_)
  have hP : va_P D cl [(h, .inr (6, [.ref qk, .ref qp, .int 0, .int 0, .int 0])), (qk, .inl (cB, 3000, .inl K)), (qp, .inl (cI, 18000, .inl P))] H := hP
  have hD : va_D A [(h, .inr (6, [.ref qk, .ref qp, .int 0, .int 0, .int 0])), (qk, .inl (cB, 3000, .inl K)), (qp, .inl (cI, 18000, .inl P))] := hD
  exact ct_retv hQ hx hb hr hlocks hP hD hS () [(h, .inr (6, [.ref qk, .ref qp, .int 0, .int 0, .int 0])), (qk, .inl (cB, 3000, .inl K)), (qp, .inl (cI, 18000, .inl P))] [0, 1, 2] (rfl) (trivial) (rfl) rfl rfl (by omega) (by omega) d_MPath_empty_15
set_option maxHeartbeats 4000000 in
set_option maxRecDepth 100000 in
/-- get(i, w) -/
theorem c_MPath_get (l : Launch) (D : va_G) (cI cB cJ : ClassId) (qQ : Nat) (h : Nat) (qk : Nat) (qp : Nat) (n : Nat) (K : Nat → Int32) (P : Nat → Int32) (fu : Bool) (fa : Bool) (i : Nat) (w : Nat) (hi : i < 3000) (hw : w < 6) : ct l D cl [(cI, .int), (cB, .byte), (cJ, .long)] (amb qQ) y_MPath_get w_MPath_get 0 0 (0) (0) [.ref h, .int (nI i), .int (nI w)] [(h, .inr (6, [.ref qk, .ref qp, .int (nI n), .int (bz fu), .int (bz fa)])), (qk, .inl (cB, 3000, .inl K)), (qp, .inl (cI, 18000, .inl P))] (fun _ : Unit => True) (fun _ : Unit => some (.int (P (6 * i + w)))) (fun _ : Unit => [(h, .inr (6, [.ref qk, .ref qp, .int (nI n), .int (bz fu), .int (bz fa)])), (qk, .inl (cB, 3000, .inl K)), (qp, .inl (cI, 18000, .inl P))]) := by
  refine ct_ofW (cc := b_MPath_get) (maxL := 3) (ret := (some .int)) (by decide) rfl (Nat.le_of_ble_eq_true rfl) ?_
  intro p e R s m args below meth c A Q ls hx hb hr hml hts hown hlocks hname hRf hRc hRs hRl hQ hK hP hD hS hA hM hl
  have hl : lv_has ls 3 [(0, .ref h), (1, .int (nI i)), (2, .int (nI w))] := hl
  refine lv_aload_n hx hb d_MPath_get_0 rfl (lv_at hl 0 rfl) ?_
  refine va_get (D := D) (ci := 6) (v := .ref qp) (C := R_MPath) (T := T_MPath) (N := 5) hx hb hts (ui_MPath _) hown hK hP 0 rfl rfl 1 (by decide) (hts _ (gwc gw_509)) (fun _ h9 => h9) rfl d_MPath_get_1 ?_
  refine lv_bipush (v := 6) hx hb d_MPath_get_4 (by decide) ?_
  refine lv_iload_n hx hb d_MPath_get_6 rfl (lv_at hl 1 rfl) ?_
  refine lv_imul hx hb d_MPath_get_7 ?_
  refine tp_i (nI (6 * i)) (pk_mul _ _) ?_
  refine lv_iload_n hx hb d_MPath_get_8 rfl (lv_at hl 2 rfl) ?_
  refine lv_iadd hx hb d_MPath_get_9 ?_
  refine tp_i (nI (6 * i + w)) (nI_add _ _) ?_
  refine ld_i hx hb hK hP 2 0 rfl rfl (6 * i + w) (by omega) (by omega) d_MPath_get_10 ?_
  exact ct_reti hQ hx hb hr hlocks hP hD hS () [(h, .inr (6, [.ref qk, .ref qp, .int (nI n), .int (bz fu), .int (bz fa)])), (qk, .inl (cB, 3000, .inl K)), (qp, .inl (cI, 18000, .inl P))] [0, 1, 2] (rfl) (trivial) (rfl) rfl rfl (by omega) (by omega) d_MPath_get_11
set_option maxHeartbeats 4000000 in
set_option maxRecDepth 100000 in
/-- isFar(v) -/
theorem c_MPath_isFar (l : Launch) (D : va_G) (cI cB cJ : ClassId) (qQ : Nat) (v : Int64)  : ct l D cl [(cI, .int), (cB, .byte), (cJ, .long)] (amb qQ) y_MPath_isFar w_MPath_isFar 0 0 (0) (0) [.long v] [] (fun _ : Unit => True) (fun _ : Unit => some (.int (bz (fr v)))) (fun _ : Unit => []) := by
  refine ct_ofW (cc := b_MPath_isFar) (maxL := 2) (ret := (some .boolean)) (by decide) rfl (Nat.le_of_ble_eq_true rfl) ?_
  intro p e R s m args below meth c A Q ls hx hb hr hml hts hown hlocks hname hRf hRc hRs hRl hQ hK hP hD hS hA hM hl
  have hl : lv_has ls 2 [(0, .long v)] := hl
  refine lv_lload_n hx hb d_MPath_isFar_0 rfl (lv_at hl 0 rfl) ?_
  refine lv_ldc2 (v := (-536870912)) hx hb hown (hts _ (gwc gw_590)) d_MPath_isFar_1 ?_
  refine W.lcmp hx hb d_MPath_isFar_4 ?_
  refine lc_lt (tgt := 16) hx hb d_MPath_isFar_5 (by decide) (fun c_1 => ?_) (fun c_1 => ?_)
  · skip
    refine lv_iconst (v := 1) hx hb d_MPath_isFar_16 (by decide) ?_
    refine lv_goto (tgt := 21) hx hb d_MPath_isFar_17 (by decide) ?_
    exact ct_retz hQ hx hb hr hlocks hP hD hS () [] [] (by simp [fr, bz, c_1]) (trivial) (rfl) rfl rfl (by decide) (by omega) (by omega) d_MPath_isFar_21
  · skip
    refine lv_lload_n hx hb d_MPath_isFar_8 rfl (lv_at hl 0 rfl) ?_
    refine lv_ldc2 (v := 536870912) hx hb hown (hts _ (gwc gw_591)) d_MPath_isFar_9 ?_
    refine W.lcmp hx hb d_MPath_isFar_12 ?_
    refine lc_le (tgt := 20) hx hb d_MPath_isFar_13 (by decide) (fun c_2 => ?_) (fun c_2 => ?_)
    · skip
      refine lv_iconst (v := 0) hx hb d_MPath_isFar_20 (by decide) ?_
      exact ct_retz hQ hx hb hr hlocks hP hD hS () [] [] (by simp [fr, bz, c_1, c_2]) (trivial) (rfl) rfl rfl (by decide) (by omega) (by omega) d_MPath_isFar_21
    · skip
      refine lv_iconst (v := 1) hx hb d_MPath_isFar_16 (by decide) ?_
      refine lv_goto (tgt := 21) hx hb d_MPath_isFar_17 (by decide) ?_
      exact ct_retz hQ hx hb hr hlocks hP hD hS () [] [] (by simp [fr, bz, c_1, c_2]) (trivial) (rfl) rfl rfl (by decide) (by omega) (by omega) d_MPath_isFar_21
set_option maxHeartbeats 4000000 in
set_option maxRecDepth 100000 in
/-- add(..): a part more, or full; far is remembered -/
theorem c_MPath_add (l : Launch) (D : va_G) (cI cB cJ : ClassId) (qQ : Nat) (h : Nat) (qk : Nat) (qp : Nat) (n : Nat) (K : Nat → Int32) (P : Nat → Int32) (fu : Bool) (fa : Bool) (kd : Int32) (x : Int64) (y : Int64) (x1 : Int64) (y1 : Int64) (x2 : Int64) (y2 : Int64) (hn : n ≤ 3000) (hk : kok kd) : ct l D cl [(cI, .int), (cB, .byte), (cJ, .long)] (amb qQ) y_MPath_add w_MPath_add 1 21 (0) (0) [.ref h, .int kd, .long x, .long y, .long x1, .long y1, .long x2, .long y2] [(h, .inr (6, [.ref qk, .ref qp, .int (nI n), .int (bz fu), .int (bz fa)])), (qk, .inl (cB, 3000, .inl K)), (qp, .inl (cI, 18000, .inl P))] (fun u_ : Nat × (Nat → Int32) × (Nat → Int32) × Bool × Bool => match u_ with | (n', K', P', fu', fa') => n' ≤ 3000 ∧ (lst n' K' P', fu', fa') = addD (lst n K P, fu, fa) kd x y x1 y1 x2 y2) (fun u_ : Nat × (Nat → Int32) × (Nat → Int32) × Bool × Bool => match u_ with | (n', K', P', fu', fa') => none) (fun u_ : Nat × (Nat → Int32) × (Nat → Int32) × Bool × Bool => match u_ with | (n', K', P', fu', fa') => [(h, .inr (6, [.ref qk, .ref qp, .int (nI n'), .int (bz fu'), .int (bz fa')])), (qk, .inl (cB, 3000, .inl K')), (qp, .inl (cI, 18000, .inl P'))]) := by
  refine ct_ofW (cc := b_MPath_add) (maxL := 14) (ret := none) (by decide) rfl (Nat.le_of_ble_eq_true rfl) ?_
  intro p e R s m args below meth c A Q ls hx hb hr hml hts hown hlocks hname hRf hRc hRs hRl hQ hK hP hD hS hA hM hl
  have hl : lv_has ls 14 [(0, .ref h), (1, .int kd), (2, .long x), (4, .long y), (6, .long x1), (8, .long y1), (10, .long x2), (12, .long y2)] := hl
  have L_60 : ∀ (v : Int32), (v = bz (fa || fr x || fr y || fr x1 || fr y1 || fr x2 || fr y2)) → ∀ (H : Heap) (locs : List Loc) (ls : Array Slot), va_P D cl [(h, .inr (6, [.ref qk, .ref qp, .int (nI n), .int (bz fu), .int (bz fa)])), (qk, .inl (cB, 3000, .inl K)), (qp, .inl (cI, 18000, .inl P))] H → va_D A [(h, .inr (6, [.ref qk, .ref qp, .int (nI n), .int (bz fu), .int (bz fa)])), (qk, .inl (cB, 3000, .inl K)), (qp, .inl (cI, 18000, .inl P))] → va_S A s.heap H locs → lv_has ls 14 [(0, .ref h), (1, .int kd), (2, .long x), (4, .long y), (6, .long x1), (8, .long y1), (10, .long x2), (12, .long y2)] → W p l e R s m args below meth c H locs (0) (0) Q (F0 m 60 ls [.int v, .ref h]) := by
    intro v hv H locs ls hP hD hS hl
    subst hv
    refine va_put (D := D) (ci := 6) (v := .int (bz (fa || fr x || fr y || fr x1 || fr y1 || fr x2 || fr y2))) (ty := .boolean) (C := R_MPath) (T := T_MPath) (N := 5) hx hb hts (ui_MPath _) t_MPath tk_MPath nk_MPath hown hK hP hD hS 0 rfl rfl 4 (by decide) (hts _ (gwc gw_515)) (fun _ h9 => h9) rfl (by decide +kernel) (bz_nar _) (bz_fit _) (Nat.le_of_ble_eq_true rfl) d_MPath_add_60 (fun H locs hP hD hS => ?_)
    have hP : va_P D cl [(h, .inr (6, [.ref qk, .ref qp, .int (nI n), .int (bz fu), .int (bz (fa || fr x || fr y || fr x1 || fr y1 || fr x2 || fr y2))])), (qk, .inl (cB, 3000, .inl K)), (qp, .inl (cI, 18000, .inl P))] H := hP
    have hD : va_D A [(h, .inr (6, [.ref qk, .ref qp, .int (nI n), .int (bz fu), .int (bz (fa || fr x || fr y || fr x1 || fr y1 || fr x2 || fr y2))])), (qk, .inl (cB, 3000, .inl K)), (qp, .inl (cI, 18000, .inl P))] := hD
    refine lv_aload_n hx hb d_MPath_add_63 rfl (lv_at hl 0 rfl) ?_
    refine va_get (D := D) (ci := 6) (v := .int (nI n)) (C := R_MPath) (T := T_MPath) (N := 5) hx hb hts (ui_MPath _) hown hK hP 0 rfl rfl 2 (by decide) (hts _ (gwc gw_510)) (fun _ h9 => h9) rfl d_MPath_add_64 ?_
    refine lv_sipush (v := 3000) hx hb d_MPath_add_67 (by decide) ?_
    refine bn_ne (a1 := n) (b1 := 3000) (tgt := 79) hx hb (by omega) (by omega) d_MPath_add_70 (by decide) (fun c_1 => ?_) (fun c_1 => ?_)
    · skip
      have c_FULL : ¬ n = 3000 := c_1
      refine lv_aload_n hx hb d_MPath_add_79 rfl (lv_at hl 0 rfl) ?_
      refine va_get (D := D) (ci := 6) (v := .ref qk) (C := R_MPath) (T := T_MPath) (N := 5) hx hb hts (ui_MPath _) hown hK hP 0 rfl rfl 0 (by decide) (hts _ (gwc gw_507)) (fun _ h9 => h9) rfl d_MPath_add_80 ?_
      refine lv_aload_n hx hb d_MPath_add_83 rfl (lv_at hl 0 rfl) ?_
      refine va_get (D := D) (ci := 6) (v := .int (nI n)) (C := R_MPath) (T := T_MPath) (N := 5) hx hb hts (ui_MPath _) hown hK hP 0 rfl rfl 2 (by decide) (hts _ (gwc gw_510)) (fun _ h9 => h9) rfl d_MPath_add_84 ?_
      refine lv_iload_n hx hb d_MPath_add_87 rfl (lv_at hl 1 rfl) ?_
      refine lv_i2b (v := kd.toInt8.toInt32) hx hb d_MPath_add_88 rfl ?_
      refine tp_i (kd) (kok_i hk) ?_
      refine st_b hx hb hK hP hD hS 1 1 rfl rfl n (kok_b hk) (by omega) (by omega) d_MPath_add_89 (fun H locs hP hD hS => ?_)
      have hP : va_P D cl [(h, .inr (6, [.ref qk, .ref qp, .int (nI n), .int (bz fu), .int (bz (fa || fr x || fr y || fr x1 || fr y1 || fr x2 || fr y2))])), (qk, .inl (cB, 3000, .inl (upd K n kd))), (qp, .inl (cI, 18000, .inl P))] H := hP
      have hD : va_D A [(h, .inr (6, [.ref qk, .ref qp, .int (nI n), .int (bz fu), .int (bz (fa || fr x || fr y || fr x1 || fr y1 || fr x2 || fr y2))])), (qk, .inl (cB, 3000, .inl (upd K n kd))), (qp, .inl (cI, 18000, .inl P))] := hD
      refine lv_aload_n hx hb d_MPath_add_90 rfl (lv_at hl 0 rfl) ?_
      refine va_get (D := D) (ci := 6) (v := .ref qp) (C := R_MPath) (T := T_MPath) (N := 5) hx hb hts (ui_MPath _) hown hK hP 0 rfl rfl 1 (by decide) (hts _ (gwc gw_509)) (fun _ h9 => h9) rfl d_MPath_add_91 ?_
      refine lv_bipush (v := 6) hx hb d_MPath_add_94 (by decide) ?_
      refine lv_aload_n hx hb d_MPath_add_96 rfl (lv_at hl 0 rfl) ?_
      refine va_get (D := D) (ci := 6) (v := .int (nI n)) (C := R_MPath) (T := T_MPath) (N := 5) hx hb hts (ui_MPath _) hown hK hP 0 rfl rfl 2 (by decide) (hts _ (gwc gw_510)) (fun _ h9 => h9) rfl d_MPath_add_97 ?_
      refine lv_imul hx hb d_MPath_add_100 ?_
      refine tp_i (nI (6 * n)) (pk_mul _ _) ?_
      refine lv_lload_n hx hb d_MPath_add_101 rfl (lv_at hl 2 rfl) ?_
      refine lv_l2i (v := x.toInt32) hx hb d_MPath_add_102 rfl ?_
      refine st_i hx hb hK hP hD hS 2 0 rfl rfl (6 * n) (by omega) (by omega) d_MPath_add_103 (fun H locs hP hD hS => ?_)
      have hP : va_P D cl [(h, .inr (6, [.ref qk, .ref qp, .int (nI n), .int (bz fu), .int (bz (fa || fr x || fr y || fr x1 || fr y1 || fr x2 || fr y2))])), (qk, .inl (cB, 3000, .inl (upd K n kd))), (qp, .inl (cI, 18000, .inl (upd P (6 * n) x.toInt32)))] H := hP
      have hD : va_D A [(h, .inr (6, [.ref qk, .ref qp, .int (nI n), .int (bz fu), .int (bz (fa || fr x || fr y || fr x1 || fr y1 || fr x2 || fr y2))])), (qk, .inl (cB, 3000, .inl (upd K n kd))), (qp, .inl (cI, 18000, .inl (upd P (6 * n) x.toInt32)))] := hD
      refine lv_aload_n hx hb d_MPath_add_104 rfl (lv_at hl 0 rfl) ?_
      refine va_get (D := D) (ci := 6) (v := .ref qp) (C := R_MPath) (T := T_MPath) (N := 5) hx hb hts (ui_MPath _) hown hK hP 0 rfl rfl 1 (by decide) (hts _ (gwc gw_509)) (fun _ h9 => h9) rfl d_MPath_add_105 ?_
      refine lv_bipush (v := 6) hx hb d_MPath_add_108 (by decide) ?_
      refine lv_aload_n hx hb d_MPath_add_110 rfl (lv_at hl 0 rfl) ?_
      refine va_get (D := D) (ci := 6) (v := .int (nI n)) (C := R_MPath) (T := T_MPath) (N := 5) hx hb hts (ui_MPath _) hown hK hP 0 rfl rfl 2 (by decide) (hts _ (gwc gw_510)) (fun _ h9 => h9) rfl d_MPath_add_111 ?_
      refine lv_imul hx hb d_MPath_add_114 ?_
      refine tp_i (nI (6 * n)) (pk_mul _ _) ?_
      refine lv_iconst (v := 1) hx hb d_MPath_add_115 (by decide) ?_
      refine lv_iadd hx hb d_MPath_add_116 ?_
      refine tp_i (nI (6 * n + 1)) (nI_add _ _) ?_
      refine lv_lload hx hb d_MPath_add_117 (lv_at hl 3 rfl) ?_
      refine lv_l2i (v := y.toInt32) hx hb d_MPath_add_119 rfl ?_
      refine st_i hx hb hK hP hD hS 2 0 rfl rfl (6 * n + 1) (by omega) (by omega) d_MPath_add_120 (fun H locs hP hD hS => ?_)
      have hP : va_P D cl [(h, .inr (6, [.ref qk, .ref qp, .int (nI n), .int (bz fu), .int (bz (fa || fr x || fr y || fr x1 || fr y1 || fr x2 || fr y2))])), (qk, .inl (cB, 3000, .inl (upd K n kd))), (qp, .inl (cI, 18000, .inl (upd (upd P (6 * n) x.toInt32) (6 * n + 1) y.toInt32)))] H := hP
      have hD : va_D A [(h, .inr (6, [.ref qk, .ref qp, .int (nI n), .int (bz fu), .int (bz (fa || fr x || fr y || fr x1 || fr y1 || fr x2 || fr y2))])), (qk, .inl (cB, 3000, .inl (upd K n kd))), (qp, .inl (cI, 18000, .inl (upd (upd P (6 * n) x.toInt32) (6 * n + 1) y.toInt32)))] := hD
      refine lv_aload_n hx hb d_MPath_add_121 rfl (lv_at hl 0 rfl) ?_
      refine va_get (D := D) (ci := 6) (v := .ref qp) (C := R_MPath) (T := T_MPath) (N := 5) hx hb hts (ui_MPath _) hown hK hP 0 rfl rfl 1 (by decide) (hts _ (gwc gw_509)) (fun _ h9 => h9) rfl d_MPath_add_122 ?_
      refine lv_bipush (v := 6) hx hb d_MPath_add_125 (by decide) ?_
      refine lv_aload_n hx hb d_MPath_add_127 rfl (lv_at hl 0 rfl) ?_
      refine va_get (D := D) (ci := 6) (v := .int (nI n)) (C := R_MPath) (T := T_MPath) (N := 5) hx hb hts (ui_MPath _) hown hK hP 0 rfl rfl 2 (by decide) (hts _ (gwc gw_510)) (fun _ h9 => h9) rfl d_MPath_add_128 ?_
      refine lv_imul hx hb d_MPath_add_131 ?_
      refine tp_i (nI (6 * n)) (pk_mul _ _) ?_
      refine lv_iconst (v := 2) hx hb d_MPath_add_132 (by decide) ?_
      refine lv_iadd hx hb d_MPath_add_133 ?_
      refine tp_i (nI (6 * n + 2)) (nI_add _ _) ?_
      refine lv_lload hx hb d_MPath_add_134 (lv_at hl 4 rfl) ?_
      refine lv_l2i (v := x1.toInt32) hx hb d_MPath_add_136 rfl ?_
      refine st_i hx hb hK hP hD hS 2 0 rfl rfl (6 * n + 2) (by omega) (by omega) d_MPath_add_137 (fun H locs hP hD hS => ?_)
      have hP : va_P D cl [(h, .inr (6, [.ref qk, .ref qp, .int (nI n), .int (bz fu), .int (bz (fa || fr x || fr y || fr x1 || fr y1 || fr x2 || fr y2))])), (qk, .inl (cB, 3000, .inl (upd K n kd))), (qp, .inl (cI, 18000, .inl (upd (upd (upd P (6 * n) x.toInt32) (6 * n + 1) y.toInt32) (6 * n + 2) x1.toInt32)))] H := hP
      have hD : va_D A [(h, .inr (6, [.ref qk, .ref qp, .int (nI n), .int (bz fu), .int (bz (fa || fr x || fr y || fr x1 || fr y1 || fr x2 || fr y2))])), (qk, .inl (cB, 3000, .inl (upd K n kd))), (qp, .inl (cI, 18000, .inl (upd (upd (upd P (6 * n) x.toInt32) (6 * n + 1) y.toInt32) (6 * n + 2) x1.toInt32)))] := hD
      refine lv_aload_n hx hb d_MPath_add_138 rfl (lv_at hl 0 rfl) ?_
      refine va_get (D := D) (ci := 6) (v := .ref qp) (C := R_MPath) (T := T_MPath) (N := 5) hx hb hts (ui_MPath _) hown hK hP 0 rfl rfl 1 (by decide) (hts _ (gwc gw_509)) (fun _ h9 => h9) rfl d_MPath_add_139 ?_
      refine lv_bipush (v := 6) hx hb d_MPath_add_142 (by decide) ?_
      refine lv_aload_n hx hb d_MPath_add_144 rfl (lv_at hl 0 rfl) ?_
      refine va_get (D := D) (ci := 6) (v := .int (nI n)) (C := R_MPath) (T := T_MPath) (N := 5) hx hb hts (ui_MPath _) hown hK hP 0 rfl rfl 2 (by decide) (hts _ (gwc gw_510)) (fun _ h9 => h9) rfl d_MPath_add_145 ?_
      refine lv_imul hx hb d_MPath_add_148 ?_
      refine tp_i (nI (6 * n)) (pk_mul _ _) ?_
      refine lv_iconst (v := 3) hx hb d_MPath_add_149 (by decide) ?_
      refine lv_iadd hx hb d_MPath_add_150 ?_
      refine tp_i (nI (6 * n + 3)) (nI_add _ _) ?_
      refine lv_lload hx hb d_MPath_add_151 (lv_at hl 5 rfl) ?_
      refine lv_l2i (v := y1.toInt32) hx hb d_MPath_add_153 rfl ?_
      refine st_i hx hb hK hP hD hS 2 0 rfl rfl (6 * n + 3) (by omega) (by omega) d_MPath_add_154 (fun H locs hP hD hS => ?_)
      have hP : va_P D cl [(h, .inr (6, [.ref qk, .ref qp, .int (nI n), .int (bz fu), .int (bz (fa || fr x || fr y || fr x1 || fr y1 || fr x2 || fr y2))])), (qk, .inl (cB, 3000, .inl (upd K n kd))), (qp, .inl (cI, 18000, .inl (upd (upd (upd (upd P (6 * n) x.toInt32) (6 * n + 1) y.toInt32) (6 * n + 2) x1.toInt32) (6 * n + 3) y1.toInt32)))] H := hP
      have hD : va_D A [(h, .inr (6, [.ref qk, .ref qp, .int (nI n), .int (bz fu), .int (bz (fa || fr x || fr y || fr x1 || fr y1 || fr x2 || fr y2))])), (qk, .inl (cB, 3000, .inl (upd K n kd))), (qp, .inl (cI, 18000, .inl (upd (upd (upd (upd P (6 * n) x.toInt32) (6 * n + 1) y.toInt32) (6 * n + 2) x1.toInt32) (6 * n + 3) y1.toInt32)))] := hD
      refine lv_aload_n hx hb d_MPath_add_155 rfl (lv_at hl 0 rfl) ?_
      refine va_get (D := D) (ci := 6) (v := .ref qp) (C := R_MPath) (T := T_MPath) (N := 5) hx hb hts (ui_MPath _) hown hK hP 0 rfl rfl 1 (by decide) (hts _ (gwc gw_509)) (fun _ h9 => h9) rfl d_MPath_add_156 ?_
      refine lv_bipush (v := 6) hx hb d_MPath_add_159 (by decide) ?_
      refine lv_aload_n hx hb d_MPath_add_161 rfl (lv_at hl 0 rfl) ?_
      refine va_get (D := D) (ci := 6) (v := .int (nI n)) (C := R_MPath) (T := T_MPath) (N := 5) hx hb hts (ui_MPath _) hown hK hP 0 rfl rfl 2 (by decide) (hts _ (gwc gw_510)) (fun _ h9 => h9) rfl d_MPath_add_162 ?_
      refine lv_imul hx hb d_MPath_add_165 ?_
      refine tp_i (nI (6 * n)) (pk_mul _ _) ?_
      refine lv_iconst (v := 4) hx hb d_MPath_add_166 (by decide) ?_
      refine lv_iadd hx hb d_MPath_add_167 ?_
      refine tp_i (nI (6 * n + 4)) (nI_add _ _) ?_
      refine lv_lload hx hb d_MPath_add_168 (lv_at hl 6 rfl) ?_
      refine lv_l2i (v := x2.toInt32) hx hb d_MPath_add_170 rfl ?_
      refine st_i hx hb hK hP hD hS 2 0 rfl rfl (6 * n + 4) (by omega) (by omega) d_MPath_add_171 (fun H locs hP hD hS => ?_)
      have hP : va_P D cl [(h, .inr (6, [.ref qk, .ref qp, .int (nI n), .int (bz fu), .int (bz (fa || fr x || fr y || fr x1 || fr y1 || fr x2 || fr y2))])), (qk, .inl (cB, 3000, .inl (upd K n kd))), (qp, .inl (cI, 18000, .inl (upd (upd (upd (upd (upd P (6 * n) x.toInt32) (6 * n + 1) y.toInt32) (6 * n + 2) x1.toInt32) (6 * n + 3) y1.toInt32) (6 * n + 4) x2.toInt32)))] H := hP
      have hD : va_D A [(h, .inr (6, [.ref qk, .ref qp, .int (nI n), .int (bz fu), .int (bz (fa || fr x || fr y || fr x1 || fr y1 || fr x2 || fr y2))])), (qk, .inl (cB, 3000, .inl (upd K n kd))), (qp, .inl (cI, 18000, .inl (upd (upd (upd (upd (upd P (6 * n) x.toInt32) (6 * n + 1) y.toInt32) (6 * n + 2) x1.toInt32) (6 * n + 3) y1.toInt32) (6 * n + 4) x2.toInt32)))] := hD
      refine lv_aload_n hx hb d_MPath_add_172 rfl (lv_at hl 0 rfl) ?_
      refine va_get (D := D) (ci := 6) (v := .ref qp) (C := R_MPath) (T := T_MPath) (N := 5) hx hb hts (ui_MPath _) hown hK hP 0 rfl rfl 1 (by decide) (hts _ (gwc gw_509)) (fun _ h9 => h9) rfl d_MPath_add_173 ?_
      refine lv_bipush (v := 6) hx hb d_MPath_add_176 (by decide) ?_
      refine lv_aload_n hx hb d_MPath_add_178 rfl (lv_at hl 0 rfl) ?_
      refine va_get (D := D) (ci := 6) (v := .int (nI n)) (C := R_MPath) (T := T_MPath) (N := 5) hx hb hts (ui_MPath _) hown hK hP 0 rfl rfl 2 (by decide) (hts _ (gwc gw_510)) (fun _ h9 => h9) rfl d_MPath_add_179 ?_
      refine lv_imul hx hb d_MPath_add_182 ?_
      refine tp_i (nI (6 * n)) (pk_mul _ _) ?_
      refine lv_iconst (v := 5) hx hb d_MPath_add_183 (by decide) ?_
      refine lv_iadd hx hb d_MPath_add_184 ?_
      refine tp_i (nI (6 * n + 5)) (nI_add _ _) ?_
      refine lv_lload hx hb d_MPath_add_185 (lv_at hl 7 rfl) ?_
      refine lv_l2i (v := y2.toInt32) hx hb d_MPath_add_187 rfl ?_
      refine st_i hx hb hK hP hD hS 2 0 rfl rfl (6 * n + 5) (by omega) (by omega) d_MPath_add_188 (fun H locs hP hD hS => ?_)
      have hP : va_P D cl [(h, .inr (6, [.ref qk, .ref qp, .int (nI n), .int (bz fu), .int (bz (fa || fr x || fr y || fr x1 || fr y1 || fr x2 || fr y2))])), (qk, .inl (cB, 3000, .inl (upd K n kd))), (qp, .inl (cI, 18000, .inl (upd (upd (upd (upd (upd (upd P (6 * n) x.toInt32) (6 * n + 1) y.toInt32) (6 * n + 2) x1.toInt32) (6 * n + 3) y1.toInt32) (6 * n + 4) x2.toInt32) (6 * n + 5) y2.toInt32)))] H := hP
      have hD : va_D A [(h, .inr (6, [.ref qk, .ref qp, .int (nI n), .int (bz fu), .int (bz (fa || fr x || fr y || fr x1 || fr y1 || fr x2 || fr y2))])), (qk, .inl (cB, 3000, .inl (upd K n kd))), (qp, .inl (cI, 18000, .inl (upd (upd (upd (upd (upd (upd P (6 * n) x.toInt32) (6 * n + 1) y.toInt32) (6 * n + 2) x1.toInt32) (6 * n + 3) y1.toInt32) (6 * n + 4) x2.toInt32) (6 * n + 5) y2.toInt32)))] := hD
      refine lv_aload_n hx hb d_MPath_add_189 rfl (lv_at hl 0 rfl) ?_
      refine lv_dup hx hb d_MPath_add_190 rfl ?_
      refine va_get (D := D) (ci := 6) (v := .int (nI n)) (C := R_MPath) (T := T_MPath) (N := 5) hx hb hts (ui_MPath _) hown hK hP 0 rfl rfl 2 (by decide) (hts _ (gwc gw_510)) (fun _ h9 => h9) rfl d_MPath_add_191 ?_
      refine lv_iconst (v := 1) hx hb d_MPath_add_194 (by decide) ?_
      refine lv_iadd hx hb d_MPath_add_195 ?_
      refine tp_i (nI (n + 1)) (nI_add _ _) ?_
      refine va_put (D := D) (ci := 6) (v := .int (nI (n + 1))) (ty := .int) (C := R_MPath) (T := T_MPath) (N := 5) hx hb hts (ui_MPath _) t_MPath tk_MPath nk_MPath hown hK hP hD hS 0 rfl rfl 2 (by decide) (hts _ (gwc gw_510)) (fun _ h9 => h9) rfl (by decide +kernel) rfl rfl (Nat.le_of_ble_eq_true rfl) d_MPath_add_196 (fun H locs hP hD hS => ?_)
      have hP : va_P D cl [(h, .inr (6, [.ref qk, .ref qp, .int (nI (n + 1)), .int (bz fu), .int (bz (fa || fr x || fr y || fr x1 || fr y1 || fr x2 || fr y2))])), (qk, .inl (cB, 3000, .inl (upd K n kd))), (qp, .inl (cI, 18000, .inl (upd (upd (upd (upd (upd (upd P (6 * n) x.toInt32) (6 * n + 1) y.toInt32) (6 * n + 2) x1.toInt32) (6 * n + 3) y1.toInt32) (6 * n + 4) x2.toInt32) (6 * n + 5) y2.toInt32)))] H := hP
      have hD : va_D A [(h, .inr (6, [.ref qk, .ref qp, .int (nI (n + 1)), .int (bz fu), .int (bz (fa || fr x || fr y || fr x1 || fr y1 || fr x2 || fr y2))])), (qk, .inl (cB, 3000, .inl (upd K n kd))), (qp, .inl (cI, 18000, .inl (upd (upd (upd (upd (upd (upd P (6 * n) x.toInt32) (6 * n + 1) y.toInt32) (6 * n + 2) x1.toInt32) (6 * n + 3) y1.toInt32) (6 * n + 4) x2.toInt32) (6 * n + 5) y2.toInt32)))] := hD
      exact ct_retv hQ hx hb hr hlocks hP hD hS (n + 1, upd K n kd, upd (upd (upd (upd (upd (upd P (6 * n) x.toInt32) (6 * n + 1) y.toInt32) (6 * n + 2) x1.toInt32) (6 * n + 3) y1.toInt32) (6 * n + 4) x2.toInt32) (6 * n + 5) y2.toInt32, fu, fa || fr x || fr y || fr x1 || fr y1 || fr x2 || fr y2) [(h, .inr (6, [.ref qk, .ref qp, .int (nI (n + 1)), .int (bz fu), .int (bz (fa || fr x || fr y || fr x1 || fr y1 || fr x2 || fr y2))])), (qk, .inl (cB, 3000, .inl (upd K n kd))), (qp, .inl (cI, 18000, .inl (upd (upd (upd (upd (upd (upd P (6 * n) x.toInt32) (6 * n + 1) y.toInt32) (6 * n + 2) x1.toInt32) (6 * n + 3) y1.toInt32) (6 * n + 4) x2.toInt32) (6 * n + 5) y2.toInt32)))] [0, 1, 2] (rfl) (⟨by omega, by rw [lst_snoc]; simp [addD, lst_len, c_FULL]⟩) (rfl) rfl rfl (by omega) (by omega) d_MPath_add_199
    · skip
      have c_FULL : n = 3000 := c_1
      refine lv_aload_n hx hb d_MPath_add_73 rfl (lv_at hl 0 rfl) ?_
      refine lv_iconst (v := 1) hx hb d_MPath_add_74 (by decide) ?_
      refine va_put (D := D) (ci := 6) (v := .int 1) (ty := .boolean) (C := R_MPath) (T := T_MPath) (N := 5) hx hb hts (ui_MPath _) t_MPath tk_MPath nk_MPath hown hK hP hD hS 0 rfl rfl 3 (by decide) (hts _ (gwc gw_512)) (fun _ h9 => h9) rfl (by decide +kernel) rfl rfl (Nat.le_of_ble_eq_true rfl) d_MPath_add_75 (fun H locs hP hD hS => ?_)
      have hP : va_P D cl [(h, .inr (6, [.ref qk, .ref qp, .int (nI n), .int 1, .int (bz (fa || fr x || fr y || fr x1 || fr y1 || fr x2 || fr y2))])), (qk, .inl (cB, 3000, .inl K)), (qp, .inl (cI, 18000, .inl P))] H := hP
      have hD : va_D A [(h, .inr (6, [.ref qk, .ref qp, .int (nI n), .int 1, .int (bz (fa || fr x || fr y || fr x1 || fr y1 || fr x2 || fr y2))])), (qk, .inl (cB, 3000, .inl K)), (qp, .inl (cI, 18000, .inl P))] := hD
      exact ct_retv hQ hx hb hr hlocks hP hD hS (n, K, P, true, fa || fr x || fr y || fr x1 || fr y1 || fr x2 || fr y2) [(h, .inr (6, [.ref qk, .ref qp, .int (nI n), .int 1, .int (bz (fa || fr x || fr y || fr x1 || fr y1 || fr x2 || fr y2))])), (qk, .inl (cB, 3000, .inl K)), (qp, .inl (cI, 18000, .inl P))] [0, 1, 2] (rfl) (⟨hn, by simp [addD, lst_len, c_FULL]⟩) (rfl) rfl rfl (by omega) (by omega) d_MPath_add_78
  refine lv_aload_n hx hb d_MPath_add_0 rfl (lv_at hl 0 rfl) ?_
  refine lv_aload_n hx hb d_MPath_add_1 rfl (lv_at hl 0 rfl) ?_
  refine va_get (D := D) (ci := 6) (v := .int (bz fa)) (C := R_MPath) (T := T_MPath) (N := 5) hx hb hts (ui_MPath _) hown hK hP 0 rfl rfl 4 (by decide) (hts _ (gwc gw_515)) (fun _ h9 => h9) rfl d_MPath_add_2 ?_
  refine bb_ne (tgt := 55) hx hb d_MPath_add_5 (by decide) (fun c_2 => ?_) (fun c_2 => ?_)
  · skip
    refine lv_iconst (v := 1) hx hb d_MPath_add_55 (by decide) ?_
    refine lv_goto (tgt := 60) hx hb d_MPath_add_56 (by decide) ?_
    exact L_60  1  (by simp [bz, c_2]) _ _ _ hP hD hS (lv_sub hl [0, 1, 2, 3, 4, 5, 6, 7] rfl)
  · skip
    refine lv_lload_n hx hb d_MPath_add_8 rfl (lv_at hl 2 rfl) ?_
    refine ct_callS (av := [.long x]) (rest := [.ref h]) (wr := [(h, .inr (6, [.ref qk, .ref qp, .int (nI n), .int (bz fu), .int (bz fa)])), (qk, .inl (cB, 3000, .inl K)), (qp, .inl (cI, 18000, .inl P))]) (n := 1) (c_MPath_isFar l D cI cB cJ qQ x ) hx hb hml hown hts (amb_ok qQ) hK hP hD hS hA hM (gi_S gw_587 gw_588 gw_34 gw_589) rfl (by decide +kernel) ⟨by omega, by omega⟩ [] [0, 1, 2] rfl rfl rfl rfl (by decide) rfl hl.1 rfl (Nat.le_of_ble_eq_true rfl) d_MPath_add_9 ⟨by omega, by omega⟩ (fun u_3 H locs hok hP hD hS => ?_)
    have hP : va_P D cl [(h, .inr (6, [.ref qk, .ref qp, .int (nI n), .int (bz fu), .int (bz fa)])), (qk, .inl (cB, 3000, .inl K)), (qp, .inl (cI, 18000, .inl P))] H := hP
    have hD : va_D A [(h, .inr (6, [.ref qk, .ref qp, .int (nI n), .int (bz fu), .int (bz fa)])), (qk, .inl (cB, 3000, .inl K)), (qp, .inl (cI, 18000, .inl P))] := hD
    refine W.eq (g2 := F0 m 12 ls [.int (bz (fr x)), .ref h]) rfl ?_
    refine bb_ne (tgt := 55) hx hb d_MPath_add_12 (by decide) (fun c_4 => ?_) (fun c_4 => ?_)
    · skip
      refine lv_iconst (v := 1) hx hb d_MPath_add_55 (by decide) ?_
      refine lv_goto (tgt := 60) hx hb d_MPath_add_56 (by decide) ?_
      exact L_60  1  (by simp [bz, c_2, c_4]) _ _ _ hP hD hS (lv_sub hl [0, 1, 2, 3, 4, 5, 6, 7] rfl)
    · skip
      refine lv_lload hx hb d_MPath_add_15 (lv_at hl 3 rfl) ?_
      refine ct_callS (av := [.long y]) (rest := [.ref h]) (wr := [(h, .inr (6, [.ref qk, .ref qp, .int (nI n), .int (bz fu), .int (bz fa)])), (qk, .inl (cB, 3000, .inl K)), (qp, .inl (cI, 18000, .inl P))]) (n := 1) (c_MPath_isFar l D cI cB cJ qQ y ) hx hb hml hown hts (amb_ok qQ) hK hP hD hS hA hM (gi_S gw_587 gw_588 gw_34 gw_589) rfl (by decide +kernel) ⟨by omega, by omega⟩ [] [0, 1, 2] rfl rfl rfl rfl (by decide) rfl hl.1 rfl (Nat.le_of_ble_eq_true rfl) d_MPath_add_17 ⟨by omega, by omega⟩ (fun u_5 H locs hok hP hD hS => ?_)
      have hP : va_P D cl [(h, .inr (6, [.ref qk, .ref qp, .int (nI n), .int (bz fu), .int (bz fa)])), (qk, .inl (cB, 3000, .inl K)), (qp, .inl (cI, 18000, .inl P))] H := hP
      have hD : va_D A [(h, .inr (6, [.ref qk, .ref qp, .int (nI n), .int (bz fu), .int (bz fa)])), (qk, .inl (cB, 3000, .inl K)), (qp, .inl (cI, 18000, .inl P))] := hD
      refine W.eq (g2 := F0 m 20 ls [.int (bz (fr y)), .ref h]) rfl ?_
      refine bb_ne (tgt := 55) hx hb d_MPath_add_20 (by decide) (fun c_6 => ?_) (fun c_6 => ?_)
      · skip
        refine lv_iconst (v := 1) hx hb d_MPath_add_55 (by decide) ?_
        refine lv_goto (tgt := 60) hx hb d_MPath_add_56 (by decide) ?_
        exact L_60  1  (by simp [bz, c_2, c_4, c_6]) _ _ _ hP hD hS (lv_sub hl [0, 1, 2, 3, 4, 5, 6, 7] rfl)
      · skip
        refine lv_lload hx hb d_MPath_add_23 (lv_at hl 4 rfl) ?_
        refine ct_callS (av := [.long x1]) (rest := [.ref h]) (wr := [(h, .inr (6, [.ref qk, .ref qp, .int (nI n), .int (bz fu), .int (bz fa)])), (qk, .inl (cB, 3000, .inl K)), (qp, .inl (cI, 18000, .inl P))]) (n := 1) (c_MPath_isFar l D cI cB cJ qQ x1 ) hx hb hml hown hts (amb_ok qQ) hK hP hD hS hA hM (gi_S gw_587 gw_588 gw_34 gw_589) rfl (by decide +kernel) ⟨by omega, by omega⟩ [] [0, 1, 2] rfl rfl rfl rfl (by decide) rfl hl.1 rfl (Nat.le_of_ble_eq_true rfl) d_MPath_add_25 ⟨by omega, by omega⟩ (fun u_7 H locs hok hP hD hS => ?_)
        have hP : va_P D cl [(h, .inr (6, [.ref qk, .ref qp, .int (nI n), .int (bz fu), .int (bz fa)])), (qk, .inl (cB, 3000, .inl K)), (qp, .inl (cI, 18000, .inl P))] H := hP
        have hD : va_D A [(h, .inr (6, [.ref qk, .ref qp, .int (nI n), .int (bz fu), .int (bz fa)])), (qk, .inl (cB, 3000, .inl K)), (qp, .inl (cI, 18000, .inl P))] := hD
        refine W.eq (g2 := F0 m 28 ls [.int (bz (fr x1)), .ref h]) rfl ?_
        refine bb_ne (tgt := 55) hx hb d_MPath_add_28 (by decide) (fun c_8 => ?_) (fun c_8 => ?_)
        · skip
          refine lv_iconst (v := 1) hx hb d_MPath_add_55 (by decide) ?_
          refine lv_goto (tgt := 60) hx hb d_MPath_add_56 (by decide) ?_
          exact L_60  1  (by simp [bz, c_2, c_4, c_6, c_8]) _ _ _ hP hD hS (lv_sub hl [0, 1, 2, 3, 4, 5, 6, 7] rfl)
        · skip
          refine lv_lload hx hb d_MPath_add_31 (lv_at hl 5 rfl) ?_
          refine ct_callS (av := [.long y1]) (rest := [.ref h]) (wr := [(h, .inr (6, [.ref qk, .ref qp, .int (nI n), .int (bz fu), .int (bz fa)])), (qk, .inl (cB, 3000, .inl K)), (qp, .inl (cI, 18000, .inl P))]) (n := 1) (c_MPath_isFar l D cI cB cJ qQ y1 ) hx hb hml hown hts (amb_ok qQ) hK hP hD hS hA hM (gi_S gw_587 gw_588 gw_34 gw_589) rfl (by decide +kernel) ⟨by omega, by omega⟩ [] [0, 1, 2] rfl rfl rfl rfl (by decide) rfl hl.1 rfl (Nat.le_of_ble_eq_true rfl) d_MPath_add_33 ⟨by omega, by omega⟩ (fun u_9 H locs hok hP hD hS => ?_)
          have hP : va_P D cl [(h, .inr (6, [.ref qk, .ref qp, .int (nI n), .int (bz fu), .int (bz fa)])), (qk, .inl (cB, 3000, .inl K)), (qp, .inl (cI, 18000, .inl P))] H := hP
          have hD : va_D A [(h, .inr (6, [.ref qk, .ref qp, .int (nI n), .int (bz fu), .int (bz fa)])), (qk, .inl (cB, 3000, .inl K)), (qp, .inl (cI, 18000, .inl P))] := hD
          refine W.eq (g2 := F0 m 36 ls [.int (bz (fr y1)), .ref h]) rfl ?_
          refine bb_ne (tgt := 55) hx hb d_MPath_add_36 (by decide) (fun c_10 => ?_) (fun c_10 => ?_)
          · skip
            refine lv_iconst (v := 1) hx hb d_MPath_add_55 (by decide) ?_
            refine lv_goto (tgt := 60) hx hb d_MPath_add_56 (by decide) ?_
            exact L_60  1  (by simp [bz, c_2, c_4, c_6, c_8, c_10]) _ _ _ hP hD hS (lv_sub hl [0, 1, 2, 3, 4, 5, 6, 7] rfl)
          · skip
            refine lv_lload hx hb d_MPath_add_39 (lv_at hl 6 rfl) ?_
            refine ct_callS (av := [.long x2]) (rest := [.ref h]) (wr := [(h, .inr (6, [.ref qk, .ref qp, .int (nI n), .int (bz fu), .int (bz fa)])), (qk, .inl (cB, 3000, .inl K)), (qp, .inl (cI, 18000, .inl P))]) (n := 1) (c_MPath_isFar l D cI cB cJ qQ x2 ) hx hb hml hown hts (amb_ok qQ) hK hP hD hS hA hM (gi_S gw_587 gw_588 gw_34 gw_589) rfl (by decide +kernel) ⟨by omega, by omega⟩ [] [0, 1, 2] rfl rfl rfl rfl (by decide) rfl hl.1 rfl (Nat.le_of_ble_eq_true rfl) d_MPath_add_41 ⟨by omega, by omega⟩ (fun u_11 H locs hok hP hD hS => ?_)
            have hP : va_P D cl [(h, .inr (6, [.ref qk, .ref qp, .int (nI n), .int (bz fu), .int (bz fa)])), (qk, .inl (cB, 3000, .inl K)), (qp, .inl (cI, 18000, .inl P))] H := hP
            have hD : va_D A [(h, .inr (6, [.ref qk, .ref qp, .int (nI n), .int (bz fu), .int (bz fa)])), (qk, .inl (cB, 3000, .inl K)), (qp, .inl (cI, 18000, .inl P))] := hD
            refine W.eq (g2 := F0 m 44 ls [.int (bz (fr x2)), .ref h]) rfl ?_
            refine bb_ne (tgt := 55) hx hb d_MPath_add_44 (by decide) (fun c_12 => ?_) (fun c_12 => ?_)
            · skip
              refine lv_iconst (v := 1) hx hb d_MPath_add_55 (by decide) ?_
              refine lv_goto (tgt := 60) hx hb d_MPath_add_56 (by decide) ?_
              exact L_60  1  (by simp [bz, c_2, c_4, c_6, c_8, c_10, c_12]) _ _ _ hP hD hS (lv_sub hl [0, 1, 2, 3, 4, 5, 6, 7] rfl)
            · skip
              refine lv_lload hx hb d_MPath_add_47 (lv_at hl 7 rfl) ?_
              refine ct_callS (av := [.long y2]) (rest := [.ref h]) (wr := [(h, .inr (6, [.ref qk, .ref qp, .int (nI n), .int (bz fu), .int (bz fa)])), (qk, .inl (cB, 3000, .inl K)), (qp, .inl (cI, 18000, .inl P))]) (n := 1) (c_MPath_isFar l D cI cB cJ qQ y2 ) hx hb hml hown hts (amb_ok qQ) hK hP hD hS hA hM (gi_S gw_587 gw_588 gw_34 gw_589) rfl (by decide +kernel) ⟨by omega, by omega⟩ [] [0, 1, 2] rfl rfl rfl rfl (by decide) rfl hl.1 rfl (Nat.le_of_ble_eq_true rfl) d_MPath_add_49 ⟨by omega, by omega⟩ (fun u_13 H locs hok hP hD hS => ?_)
              have hP : va_P D cl [(h, .inr (6, [.ref qk, .ref qp, .int (nI n), .int (bz fu), .int (bz fa)])), (qk, .inl (cB, 3000, .inl K)), (qp, .inl (cI, 18000, .inl P))] H := hP
              have hD : va_D A [(h, .inr (6, [.ref qk, .ref qp, .int (nI n), .int (bz fu), .int (bz fa)])), (qk, .inl (cB, 3000, .inl K)), (qp, .inl (cI, 18000, .inl P))] := hD
              refine W.eq (g2 := F0 m 52 ls [.int (bz (fr y2)), .ref h]) rfl ?_
              refine bb_eq (tgt := 59) hx hb d_MPath_add_52 (by decide) (fun c_14 => ?_) (fun c_14 => ?_)
              · skip
                refine lv_iconst (v := 0) hx hb d_MPath_add_59 (by decide) ?_
                exact L_60  0  (by simp [bz, c_2, c_4, c_6, c_8, c_10, c_12, c_14]) _ _ _ hP hD hS (lv_sub hl [0, 1, 2, 3, 4, 5, 6, 7] rfl)
              · skip
                refine lv_iconst (v := 1) hx hb d_MPath_add_55 (by decide) ?_
                refine lv_goto (tgt := 60) hx hb d_MPath_add_56 (by decide) ?_
                exact L_60  1  (by simp [bz, c_2, c_4, c_6, c_8, c_10, c_12, c_14]) _ _ _ hP hD hS (lv_sub hl [0, 1, 2, 3, 4, 5, 6, 7] rfl)
set_option maxHeartbeats 4000000 in
set_option maxRecDepth 100000 in
/-- addPoint(..) -/
theorem c_MPath_addPoint (l : Launch) (D : va_G) (cI cB cJ : ClassId) (qQ : Nat) (h : Nat) (qk : Nat) (qp : Nat) (n : Nat) (K : Nat → Int32) (P : Nat → Int32) (fu : Bool) (fa : Bool) (kd : Int32) (x : Int64) (y : Int64) (hn : n ≤ 3000) (hk : kok kd) : ct l D cl [(cI, .int), (cB, .byte), (cJ, .long)] (amb qQ) y_MPath_addPoint w_MPath_addPoint 2 54 (0) (0) [.ref h, .int kd, .long x, .long y] [(h, .inr (6, [.ref qk, .ref qp, .int (nI n), .int (bz fu), .int (bz fa)])), (qk, .inl (cB, 3000, .inl K)), (qp, .inl (cI, 18000, .inl P))] (fun u_ : Nat × (Nat → Int32) × (Nat → Int32) × Bool × Bool => match u_ with | (n', K', P', fu', fa') => n' ≤ 3000 ∧ (lst n' K' P', fu', fa') = addD (lst n K P, fu, fa) kd x y 0 0 0 0) (fun u_ : Nat × (Nat → Int32) × (Nat → Int32) × Bool × Bool => match u_ with | (n', K', P', fu', fa') => none) (fun u_ : Nat × (Nat → Int32) × (Nat → Int32) × Bool × Bool => match u_ with | (n', K', P', fu', fa') => [(h, .inr (6, [.ref qk, .ref qp, .int (nI n'), .int (bz fu'), .int (bz fa')])), (qk, .inl (cB, 3000, .inl K')), (qp, .inl (cI, 18000, .inl P'))]) := by
  refine ct_ofW (cc := b_MPath_addPoint) (maxL := 6) (ret := none) (by decide) rfl (Nat.le_of_ble_eq_true rfl) ?_
  intro p e R s m args below meth c A Q ls hx hb hr hml hts hown hlocks hname hRf hRc hRs hRl hQ hK hP hD hS hA hM hl
  have hl : lv_has ls 6 [(0, .ref h), (1, .int kd), (2, .long x), (4, .long y)] := hl
  refine lv_aload_n hx hb d_MPath_addPoint_0 rfl (lv_at hl 0 rfl) ?_
  refine lv_iload_n hx hb d_MPath_addPoint_1 rfl (lv_at hl 1 rfl) ?_
  refine lv_lload_n hx hb d_MPath_addPoint_2 rfl (lv_at hl 2 rfl) ?_
  refine lv_lload hx hb d_MPath_addPoint_3 (lv_at hl 3 rfl) ?_
  refine lv_lconst (v := 0) hx hb d_MPath_addPoint_5 (by decide) ?_
  refine lv_lconst (v := 0) hx hb d_MPath_addPoint_6 (by decide) ?_
  refine lv_lconst (v := 0) hx hb d_MPath_addPoint_7 (by decide) ?_
  refine lv_lconst (v := 0) hx hb d_MPath_addPoint_8 (by decide) ?_
  refine ct_callV (ci := 6) (q0 := 0) (As := [.int kd, .long x, .long y, .long 0, .long 0, .long 0, .long 0]) (rest := []) (wr := []) (n := 7) (c_MPath_add l D cI cB cJ qQ h qk qp n K P fu fa kd x y 0 0 0 0 (hn) (hk)) hx hb hml hown hts (amb_ok qQ) hK hP hD hS hA hM (gi_V gw_583 gw_584 gw_585 gw_34 gw_586) rfl (by decide +kernel) ⟨by omega, by omega⟩ [0, 1, 2] [] rfl rfl rfl rfl (by decide) rfl rfl rfl hl.1 rfl (Nat.le_of_ble_eq_true rfl) d_MPath_addPoint_9 ⟨by omega, by omega⟩ (fun u_1 H locs hok hP hD hS => ?_)
  obtain ⟨n'_2, K'_3, P'_4, fu'_5, fa'_6⟩ := u_1
  have hok_7 : n'_2 ≤ 3000 ∧ (lst n'_2 K'_3 P'_4, fu'_5, fa'_6) = addD (lst n K P, fu, fa) kd x y 0 0 0 0 := hok
  have hP : va_P D cl [(h, .inr (6, [.ref qk, .ref qp, .int (nI n'_2), .int (bz fu'_5), .int (bz fa'_6)])), (qk, .inl (cB, 3000, .inl K'_3)), (qp, .inl (cI, 18000, .inl P'_4))] H := hP
  have hD : va_D A [(h, .inr (6, [.ref qk, .ref qp, .int (nI n'_2), .int (bz fu'_5), .int (bz fa'_6)])), (qk, .inl (cB, 3000, .inl K'_3)), (qp, .inl (cI, 18000, .inl P'_4))] := hD
  refine W.eq (g2 := F0 m 12 ls []) rfl ?_
  exact ct_retv hQ hx hb hr hlocks hP hD hS (n'_2, K'_3, P'_4, fu'_5, fa'_6) [(h, .inr (6, [.ref qk, .ref qp, .int (nI n'_2), .int (bz fu'_5), .int (bz fa'_6)])), (qk, .inl (cB, 3000, .inl K'_3)), (qp, .inl (cI, 18000, .inl P'_4))] [0, 1, 2] (rfl) (hok_7) (rfl) rfl rfl (by omega) (by omega) d_MPath_addPoint_12
end
section
theorem lst_last {n : Nat} {K P : Nat → Int32} (h : 0 < n) : (lst n K P).getLast? = some (pt K P (n - 1)) := by
  obtain ⟨m, rfl⟩ : ∃ m, n = m + 1 := ⟨n - 1, by omega⟩
  rw [lst_succ]
  simp
theorem lst_drop {n : Nat} {K P : Nat → Int32} (h : 0 < n) : (lst n K P).dropLast = lst (n - 1) K P := by
  obtain ⟨m, rfl⟩ : ∃ m, n = m + 1 := ⟨n - 1, by omega⟩
  rw [lst_succ]
  simp
theorem lst_0 (K P : Nat → Int32) : lst 0 K P = [] := rfl
/-- the kind of the latest part; -1 when there is none -/
def lk (ps : List Pt) : Int32 := match ps.getLast? with | some q => q.1 | none => -1
theorem lk_n {n : Nat} {K P : Nat → Int32} (h : 0 < n) : lk (lst n K P) = K (n - 1) := by unfold lk; rw [lst_last h]; rfl
theorem lk_0 {K P : Nat → Int32} : lk (lst 0 K P) = -1 := rfl
/-- x and y of the latest part's point -/
def lx (ps : List Pt) : Int32 := match ps.getLast? with | some q => q.2.1 | none => 0
def ly (ps : List Pt) : Int32 := match ps.getLast? with | some q => q.2.2.1 | none => 0
theorem lx_n {n : Nat} {K P : Nat → Int32} (h : 0 < n) : lx (lst n K P) = P (6 * (n - 1)) := by unfold lx; rw [lst_last h]; rfl
theorem ly_n {n : Nat} {K P : Nat → Int32} (h : 0 < n) : ly (lst n K P) = P (6 * (n - 1) + 1) := by unfold ly; rw [lst_last h]; rfl
def openD (d : DS) : DS := if lk d.1 = 3 then addD d 0 (lx d.1).toInt64 (ly d.1).toInt64 0 0 0 0 else d
def beginD (d : DS) (x y : Int64) : DS := addD (if lk d.1 = 0 then (d.1.dropLast, d.2.1, d.2.2) else d) 0 x y 0 0 0 0
theorem kok0 : kok 0 := Or.inl rfl
theorem kok1 : kok 1 := Or.inr (Or.inl rfl)
theorem kok2 : kok 2 := Or.inr (Or.inr (Or.inl rfl))
theorem kok3 : kok 3 := Or.inr (Or.inr (Or.inr rfl))
section OB
variable {n : Nat} {K P : Nat → Int32} {fu fa : Bool} {x y : Int64}
theorem openD_0 (h : n = 0) : openD (lst n K P, fu, fa) = (lst n K P, fu, fa) := by
  subst h
  unfold openD
  rw [if_neg (by rw [lk_0]; decide)]
theorem openD_n (h : 0 < n) (h2 : ¬ K (n - 1) = 3) : openD (lst n K P, fu, fa) = (lst n K P, fu, fa) := by
  unfold openD
  rw [if_neg (by rw [lk_n h]; exact h2)]
theorem openD_y (h : 0 < n) (h2 : K (n - 1) = 3) : openD (lst n K P, fu, fa) = addD (lst n K P, fu, fa) 0 (P (6 * (n - 1) + 0)).toInt64 (P (6 * (n - 1) + 1)).toInt64 0 0 0 0 := by
  unfold openD
  rw [if_pos (by rw [lk_n h]; exact h2)]
  show addD _ _ (lx (lst n K P)).toInt64 (ly (lst n K P)).toInt64 _ _ _ _ = _
  rw [lx_n h, ly_n h]
  rfl
theorem beginD_0 (h : n = 0) : beginD (lst n K P, fu, fa) x y = addD (lst n K P, fu, fa) 0 x y 0 0 0 0 := by
  subst h
  unfold beginD
  rw [if_neg (by rw [lk_0]; decide)]
theorem beginD_n (h : 0 < n) (h2 : ¬ K (n - 1) = 0) : beginD (lst n K P, fu, fa) x y = addD (lst n K P, fu, fa) 0 x y 0 0 0 0 := by
  unfold beginD
  rw [if_neg (by rw [lk_n h]; exact h2)]
theorem beginD_y (h : 0 < n) (h2 : K (n - 1) = 0) : beginD (lst n K P, fu, fa) x y = addD (lst (n - 1) K P, fu, fa) 0 x y 0 0 0 0 := by
  unfold beginD
  rw [if_pos (by rw [lk_n h]; exact h2)]
  show addD ((lst n K P).dropLast, _, _) _ _ _ _ _ _ _ = _
  rw [lst_drop h]
end OB
end
section
set_option maxHeartbeats 4000000 in
set_option maxRecDepth 100000 in
/-- copy(o): the parts of o -/
theorem c_MPath_copy (l : Launch) (D : va_G) (cI cB cJ : ClassId) (qQ : Nat) (h : Nat) (qk : Nat) (qp : Nat) (n : Nat) (K : Nat → Int32) (P : Nat → Int32) (fu : Bool) (fa : Bool) (h2 : Nat) (qk2 : Nat) (qp2 : Nat) (n2 : Nat) (K2 : Nat → Int32) (P2 : Nat → Int32) (fu2 : Bool) (fa2 : Bool) (hn : n2 ≤ 3000) (hk : ∀ i, i < n2 → kok (K2 i)) : ct l D cl [(cI, .int), (cB, .byte), (cJ, .long)] (amb qQ) y_MPath_copy w_MPath_copy 1 20 (0) (0) [.ref h, .ref h2] [(h, .inr (6, [.ref qk, .ref qp, .int (nI n), .int (bz fu), .int (bz fa)])), (qk, .inl (cB, 3000, .inl K)), (qp, .inl (cI, 18000, .inl P)), (h2, .inr (6, [.ref qk2, .ref qp2, .int (nI n2), .int (bz fu2), .int (bz fa2)])), (qk2, .inl (cB, 3000, .inl K2)), (qp2, .inl (cI, 18000, .inl P2))] (fun u_ : (Nat → Int32) × (Nat → Int32) => match u_ with | (K', P') => lst n2 K' P' = lst n2 K2 P2) (fun u_ : (Nat → Int32) × (Nat → Int32) => match u_ with | (K', P') => none) (fun u_ : (Nat → Int32) × (Nat → Int32) => match u_ with | (K', P') => [(h, .inr (6, [.ref qk, .ref qp, .int (nI n2), .int (bz false), .int (bz false)])), (qk, .inl (cB, 3000, .inl K')), (qp, .inl (cI, 18000, .inl P')), (h2, .inr (6, [.ref qk2, .ref qp2, .int (nI n2), .int (bz fu2), .int (bz fa2)])), (qk2, .inl (cB, 3000, .inl K2)), (qp2, .inl (cI, 18000, .inl P2))]) := by
  refine ct_ofW (cc := b_MPath_copy) (maxL := 3) (ret := none) (by decide) rfl (Nat.le_of_ble_eq_true rfl) ?_
  intro p e R s m args below meth c A Q ls hx hb hr hml hts hown hlocks hname hRf hRc hRs hRl hQ hK hP hD hS hA hM hl
  have hl : lv_has ls 3 [(0, .ref h), (1, .ref h2)] := hl
  refine lv_aload_n hx hb d_MPath_copy_0 rfl (lv_at hl 0 rfl) ?_
  refine ct_callV (ci := 6) (q0 := 0) (As := []) (rest := []) (wr := [(h2, .inr (6, [.ref qk2, .ref qp2, .int (nI n2), .int (bz fu2), .int (bz fa2)])), (qk2, .inl (cB, 3000, .inl K2)), (qp2, .inl (cI, 18000, .inl P2))]) (n := 0) (c_MPath_empty l D cI cB cJ qQ h qk qp n K P fu fa ) hx hb hml hown hts (amb_ok qQ) hK hP hD hS hA hM (gi_V gw_571 gw_572 gw_573 gw_34 gw_574) rfl (by decide +kernel) ⟨by omega, by omega⟩ [0, 1, 2] [3, 4, 5] rfl rfl rfl rfl (by decide) rfl rfl rfl hl.1 rfl (Nat.le_of_ble_eq_true rfl) d_MPath_copy_1 ⟨by omega, by omega⟩ (fun u_1 H locs hok hP hD hS => ?_)
  have hP : va_P D cl [(h2, .inr (6, [.ref qk2, .ref qp2, .int (nI n2), .int (bz fu2), .int (bz fa2)])), (qk2, .inl (cB, 3000, .inl K2)), (qp2, .inl (cI, 18000, .inl P2)), (h, .inr (6, [.ref qk, .ref qp, .int (nI 0), .int (bz false), .int (bz false)])), (qk, .inl (cB, 3000, .inl K)), (qp, .inl (cI, 18000, .inl P))] H := hP
  have hD : va_D A [(h2, .inr (6, [.ref qk2, .ref qp2, .int (nI n2), .int (bz fu2), .int (bz fa2)])), (qk2, .inl (cB, 3000, .inl K2)), (qp2, .inl (cI, 18000, .inl P2)), (h, .inr (6, [.ref qk, .ref qp, .int (nI 0), .int (bz false), .int (bz false)])), (qk, .inl (cB, 3000, .inl K)), (qp, .inl (cI, 18000, .inl P))] := hD
  refine W.eq (g2 := F0 m 4 ls []) rfl ?_
  refine lv_aload_n hx hb d_MPath_copy_4 rfl (lv_at hl 0 rfl) ?_
  refine lv_aload_n hx hb d_MPath_copy_5 rfl (lv_at hl 1 rfl) ?_
  refine va_get (D := D) (ci := 6) (v := .int (nI n2)) (C := R_MPath) (T := T_MPath) (N := 5) hx hb hts (ui_MPath _) hown hK hP 0 rfl rfl 2 (by decide) (hts _ (gwc gw_510)) (fun _ h9 => h9) rfl d_MPath_copy_6 ?_
  refine va_put (D := D) (ci := 6) (v := .int (nI n2)) (ty := .int) (C := R_MPath) (T := T_MPath) (N := 5) hx hb hts (ui_MPath _) t_MPath tk_MPath nk_MPath hown hK hP hD hS 3 rfl rfl 2 (by decide) (hts _ (gwc gw_510)) (fun _ h9 => h9) rfl (by decide +kernel) rfl rfl (Nat.le_of_ble_eq_true rfl) d_MPath_copy_9 (fun H locs hP hD hS => ?_)
  have hP : va_P D cl [(h2, .inr (6, [.ref qk2, .ref qp2, .int (nI n2), .int (bz fu2), .int (bz fa2)])), (qk2, .inl (cB, 3000, .inl K2)), (qp2, .inl (cI, 18000, .inl P2)), (h, .inr (6, [.ref qk, .ref qp, .int (nI n2), .int (bz false), .int (bz false)])), (qk, .inl (cB, 3000, .inl K)), (qp, .inl (cI, 18000, .inl P))] H := hP
  have hD : va_D A [(h2, .inr (6, [.ref qk2, .ref qp2, .int (nI n2), .int (bz fu2), .int (bz fa2)])), (qk2, .inl (cB, 3000, .inl K2)), (qp2, .inl (cI, 18000, .inl P2)), (h, .inr (6, [.ref qk, .ref qp, .int (nI n2), .int (bz false), .int (bz false)])), (qk, .inl (cB, 3000, .inl K)), (qp, .inl (cI, 18000, .inl P))] := hD
  refine lv_iconst (v := 0) hx hb d_MPath_copy_12 (by decide) ?_
  refine lv_istore_n (lv' := [(2, .int 0), (0, .ref h), (1, .ref h2)]) hx hb d_MPath_copy_13 rfl hl (by decide) rfl (fun ls hl => ?_)
  have L_14 : ∀ (n_ : Nat) (i : Nat) (K_ : Nat → Int32), n2 - i < n_ → (i ≤ n2) → (∀ j, j < i → K_ j = K2 j) → ∀ (H : Heap) (locs : List Loc) (ls : Array Slot), va_P D cl [(h, .inr (6, [.ref qk, .ref qp, .int (nI n2), .int (bz false), .int (bz false)])), (qk, .inl (cB, 3000, .inl K_)), (qp, .inl (cI, 18000, .inl P)), (h2, .inr (6, [.ref qk2, .ref qp2, .int (nI n2), .int (bz fu2), .int (bz fa2)])), (qk2, .inl (cB, 3000, .inl K2)), (qp2, .inl (cI, 18000, .inl P2))] H → va_D A [(h, .inr (6, [.ref qk, .ref qp, .int (nI n2), .int (bz false), .int (bz false)])), (qk, .inl (cB, 3000, .inl K_)), (qp, .inl (cI, 18000, .inl P)), (h2, .inr (6, [.ref qk2, .ref qp2, .int (nI n2), .int (bz fu2), .int (bz fa2)])), (qk2, .inl (cB, 3000, .inl K2)), (qp2, .inl (cI, 18000, .inl P2))] → va_S A s.heap H locs → lv_has ls 3 [(0, .ref h), (1, .ref h2), (2, .int (nI i))] → W p l e R s m args below meth c H locs (0) (0) Q (F0 m 14 ls []) := by
    intro n_
    induction n_ with
    | zero => intro i K_ hm_; exact absurd hm_ (Nat.not_lt_zero _)
    | succ n_ ih_14 =>
      intro i K_ hm_ hi hKi H locs ls hP hD hS hl
      refine lv_iload_n hx hb d_MPath_copy_14 rfl (lv_at hl 2 rfl) ?_
      refine lv_aload_n hx hb d_MPath_copy_15 rfl (lv_at hl 0 rfl) ?_
      refine va_get (D := D) (ci := 6) (v := .int (nI n2)) (C := R_MPath) (T := T_MPath) (N := 5) hx hb hts (ui_MPath _) hown hK hP 0 rfl rfl 2 (by decide) (hts _ (gwc gw_510)) (fun _ h9 => h9) rfl d_MPath_copy_16 ?_
      refine bn_ge (a1 := i) (b1 := n2) (tgt := 40) hx hb (by omega) (by omega) d_MPath_copy_19 (by decide) (fun c_2 => ?_) (fun c_2 => ?_)
      · skip
        have hK9 : ∀ j, j < n2 → K_ j = K2 j := fun j hj => hKi j (by omega)
        refine lv_iconst (v := 0) hx hb d_MPath_copy_40 (by decide) ?_
        refine lv_istore_n (lv' := [(2, .int 0), (0, .ref h), (1, .ref h2)]) hx hb d_MPath_copy_41 rfl hl (by decide) rfl (fun ls hl => ?_)
        have L_42 : ∀ (n_ : Nat) (i : Nat) (P_ : Nat → Int32), 6 * n2 - i < n_ → (i ≤ 6 * n2) → (∀ j, j < i → P_ j = P2 j) → ∀ (H : Heap) (locs : List Loc) (ls : Array Slot), va_P D cl [(h, .inr (6, [.ref qk, .ref qp, .int (nI n2), .int (bz false), .int (bz false)])), (qk, .inl (cB, 3000, .inl K_)), (qp, .inl (cI, 18000, .inl P_)), (h2, .inr (6, [.ref qk2, .ref qp2, .int (nI n2), .int (bz fu2), .int (bz fa2)])), (qk2, .inl (cB, 3000, .inl K2)), (qp2, .inl (cI, 18000, .inl P2))] H → va_D A [(h, .inr (6, [.ref qk, .ref qp, .int (nI n2), .int (bz false), .int (bz false)])), (qk, .inl (cB, 3000, .inl K_)), (qp, .inl (cI, 18000, .inl P_)), (h2, .inr (6, [.ref qk2, .ref qp2, .int (nI n2), .int (bz fu2), .int (bz fa2)])), (qk2, .inl (cB, 3000, .inl K2)), (qp2, .inl (cI, 18000, .inl P2))] → va_S A s.heap H locs → lv_has ls 3 [(0, .ref h), (1, .ref h2), (2, .int (nI i))] → W p l e R s m args below meth c H locs (0) (0) Q (F0 m 42 ls []) := by
          intro n_
          induction n_ with
          | zero => intro i P_ hm_; exact absurd hm_ (Nat.not_lt_zero _)
          | succ n_ ih_42 =>
            intro i P_ hm_ hi hPi H locs ls hP hD hS hl
            refine lv_iload_n hx hb d_MPath_copy_42 rfl (lv_at hl 2 rfl) ?_
            refine lv_bipush (v := 6) hx hb d_MPath_copy_43 (by decide) ?_
            refine lv_aload_n hx hb d_MPath_copy_45 rfl (lv_at hl 0 rfl) ?_
            refine va_get (D := D) (ci := 6) (v := .int (nI n2)) (C := R_MPath) (T := T_MPath) (N := 5) hx hb hts (ui_MPath _) hown hK hP 0 rfl rfl 2 (by decide) (hts _ (gwc gw_510)) (fun _ h9 => h9) rfl d_MPath_copy_46 ?_
            refine lv_imul hx hb d_MPath_copy_49 ?_
            refine tp_i (nI (6 * n2)) (pk_mul _ _) ?_
            refine bn_ge (a1 := i) (b1 := 6 * n2) (tgt := 71) hx hb (by omega) (by omega) d_MPath_copy_50 (by decide) (fun c_3 => ?_) (fun c_3 => ?_)
            · skip
              exact ct_retv hQ hx hb hr hlocks hP hD hS (K_, P_) [(h, .inr (6, [.ref qk, .ref qp, .int (nI n2), .int (bz false), .int (bz false)])), (qk, .inl (cB, 3000, .inl K_)), (qp, .inl (cI, 18000, .inl P_)), (h2, .inr (6, [.ref qk2, .ref qp2, .int (nI n2), .int (bz fu2), .int (bz fa2)])), (qk2, .inl (cB, 3000, .inl K2)), (qp2, .inl (cI, 18000, .inl P2))] [0, 1, 2, 3, 4, 5] (rfl) (lst_congr hK9 (fun j hj => hPi j (by omega))) (rfl) rfl rfl (by omega) (by omega) d_MPath_copy_71
            · skip
              refine lv_aload_n hx hb d_MPath_copy_53 rfl (lv_at hl 0 rfl) ?_
              refine va_get (D := D) (ci := 6) (v := .ref qp) (C := R_MPath) (T := T_MPath) (N := 5) hx hb hts (ui_MPath _) hown hK hP 0 rfl rfl 1 (by decide) (hts _ (gwc gw_509)) (fun _ h9 => h9) rfl d_MPath_copy_54 ?_
              refine lv_iload_n hx hb d_MPath_copy_57 rfl (lv_at hl 2 rfl) ?_
              refine lv_aload_n hx hb d_MPath_copy_58 rfl (lv_at hl 1 rfl) ?_
              refine va_get (D := D) (ci := 6) (v := .ref qp2) (C := R_MPath) (T := T_MPath) (N := 5) hx hb hts (ui_MPath _) hown hK hP 3 rfl rfl 1 (by decide) (hts _ (gwc gw_509)) (fun _ h9 => h9) rfl d_MPath_copy_59 ?_
              refine lv_iload_n hx hb d_MPath_copy_62 rfl (lv_at hl 2 rfl) ?_
              refine ld_i hx hb hK hP 5 0 rfl rfl i (by omega) (by omega) d_MPath_copy_63 ?_
              refine st_i hx hb hK hP hD hS 2 0 rfl rfl i (by omega) (by omega) d_MPath_copy_64 (fun H locs hP hD hS => ?_)
              have hP : va_P D cl [(h, .inr (6, [.ref qk, .ref qp, .int (nI n2), .int (bz false), .int (bz false)])), (qk, .inl (cB, 3000, .inl K_)), (qp, .inl (cI, 18000, .inl (upd P_ i (P2 i)))), (h2, .inr (6, [.ref qk2, .ref qp2, .int (nI n2), .int (bz fu2), .int (bz fa2)])), (qk2, .inl (cB, 3000, .inl K2)), (qp2, .inl (cI, 18000, .inl P2))] H := hP
              have hD : va_D A [(h, .inr (6, [.ref qk, .ref qp, .int (nI n2), .int (bz false), .int (bz false)])), (qk, .inl (cB, 3000, .inl K_)), (qp, .inl (cI, 18000, .inl (upd P_ i (P2 i)))), (h2, .inr (6, [.ref qk2, .ref qp2, .int (nI n2), .int (bz fu2), .int (bz fa2)])), (qk2, .inl (cB, 3000, .inl K2)), (qp2, .inl (cI, 18000, .inl P2))] := hD
              refine lv_iinc (v := nI (i + 1)) (lv' := [(2, .int (nI (i + 1))), (0, .ref h), (1, .ref h2)]) hx hb d_MPath_copy_65 hl (k := 2) rfl (by first | exact nI_add _ 1 | rfl | decide) (by decide) rfl (fun ls hl => ?_)
              refine lv_goto (tgt := 42) hx hb d_MPath_copy_68 (by decide) ?_
              exact ih_42 (i + 1) (upd P_ i (P2 i)) (by omega) (by omega) (fun j hj => by
      by_cases h9 : j = i
      · rw [h9, up_s]
      · rw [up_n h9]; exact hPi j (by omega)) _ _ _ hP hD hS (lv_sub hl [1, 2, 0] rfl)
        exact L_42 ((6 * n2 - 0) + 1) 0 P (Nat.lt_succ_self _) (by omega) (fun j hj => absurd hj (Nat.not_lt_zero j)) _ _ _ hP hD hS (lv_sub hl [1, 2, 0] rfl)
      · skip
        refine lv_aload_n hx hb d_MPath_copy_22 rfl (lv_at hl 0 rfl) ?_
        refine va_get (D := D) (ci := 6) (v := .ref qk) (C := R_MPath) (T := T_MPath) (N := 5) hx hb hts (ui_MPath _) hown hK hP 0 rfl rfl 0 (by decide) (hts _ (gwc gw_507)) (fun _ h9 => h9) rfl d_MPath_copy_23 ?_
        refine lv_iload_n hx hb d_MPath_copy_26 rfl (lv_at hl 2 rfl) ?_
        refine lv_aload_n hx hb d_MPath_copy_27 rfl (lv_at hl 1 rfl) ?_
        refine va_get (D := D) (ci := 6) (v := .ref qk2) (C := R_MPath) (T := T_MPath) (N := 5) hx hb hts (ui_MPath _) hown hK hP 3 rfl rfl 0 (by decide) (hts _ (gwc gw_507)) (fun _ h9 => h9) rfl d_MPath_copy_28 ?_
        refine lv_iload_n hx hb d_MPath_copy_31 rfl (lv_at hl 2 rfl) ?_
        refine ld_b hx hb hK hP 4 1 rfl rfl i (by omega) (by omega) d_MPath_copy_32 ?_
        refine st_b hx hb hK hP hD hS 1 1 rfl rfl i (kok_b (hk i (by omega))) (by omega) (by omega) d_MPath_copy_33 (fun H locs hP hD hS => ?_)
        have hP : va_P D cl [(h, .inr (6, [.ref qk, .ref qp, .int (nI n2), .int (bz false), .int (bz false)])), (qk, .inl (cB, 3000, .inl (upd K_ i (K2 i)))), (qp, .inl (cI, 18000, .inl P)), (h2, .inr (6, [.ref qk2, .ref qp2, .int (nI n2), .int (bz fu2), .int (bz fa2)])), (qk2, .inl (cB, 3000, .inl K2)), (qp2, .inl (cI, 18000, .inl P2))] H := hP
        have hD : va_D A [(h, .inr (6, [.ref qk, .ref qp, .int (nI n2), .int (bz false), .int (bz false)])), (qk, .inl (cB, 3000, .inl (upd K_ i (K2 i)))), (qp, .inl (cI, 18000, .inl P)), (h2, .inr (6, [.ref qk2, .ref qp2, .int (nI n2), .int (bz fu2), .int (bz fa2)])), (qk2, .inl (cB, 3000, .inl K2)), (qp2, .inl (cI, 18000, .inl P2))] := hD
        refine lv_iinc (v := nI (i + 1)) (lv' := [(2, .int (nI (i + 1))), (0, .ref h), (1, .ref h2)]) hx hb d_MPath_copy_34 hl (k := 2) rfl (by first | exact nI_add _ 1 | rfl | decide) (by decide) rfl (fun ls hl => ?_)
        refine lv_goto (tgt := 14) hx hb d_MPath_copy_37 (by decide) ?_
        exact ih_14 (i + 1) (upd K_ i (K2 i)) (by omega) (by omega) (fun j hj => by
      by_cases h9 : j = i
      · rw [h9, up_s]
      · rw [up_n h9]; exact hKi j (by omega)) _ _ _ hP hD hS (lv_sub hl [1, 2, 0] rfl)
  exact L_14 ((n2 - 0) + 1) 0 K (Nat.lt_succ_self _) (by omega) (fun j hj => absurd hj (Nat.not_lt_zero j)) _ _ _ (hP.sub [3, 4, 5, 0, 1, 2] rfl) (hD.sub [3, 4, 5, 0, 1, 2] (by decide) rfl) hS (lv_sub hl [1, 2, 0] rfl)
set_option maxHeartbeats 4000000 in
set_option maxRecDepth 100000 in
/-- first(part): where its subpath begins -/
theorem c_MPath_first (l : Launch) (D : va_G) (cI cB cJ : ClassId) (qQ : Nat) (h : Nat) (qk : Nat) (qp : Nat) (n : Nat) (K : Nat → Int32) (P : Nat → Int32) (fu : Bool) (fa : Bool) (pa : Nat) (hp : pa < 3000) (h0 : K 0 = 0) : ct l D cl [(cI, .int), (cB, .byte), (cJ, .long)] (amb qQ) y_MPath_first w_MPath_first 0 0 (0) (0) [.ref h, .int (nI pa)] [(h, .inr (6, [.ref qk, .ref qp, .int (nI n), .int (bz fu), .int (bz fa)])), (qk, .inl (cB, 3000, .inl K)), (qp, .inl (cI, 18000, .inl P))] (fun r : Nat => r ≤ pa ∧ K r = 0 ∧ ∀ j, r < j → j ≤ pa → ¬ K j = 0) (fun r : Nat => some (.int (nI r))) (fun r : Nat => [(h, .inr (6, [.ref qk, .ref qp, .int (nI n), .int (bz fu), .int (bz fa)])), (qk, .inl (cB, 3000, .inl K)), (qp, .inl (cI, 18000, .inl P))]) := by
  refine ct_ofW (cc := b_MPath_first) (maxL := 3) (ret := (some .int)) (by decide) rfl (Nat.le_of_ble_eq_true rfl) ?_
  intro p e R s m args below meth c A Q ls hx hb hr hml hts hown hlocks hname hRf hRc hRs hRl hQ hK hP hD hS hA hM hl
  have hl : lv_has ls 3 [(0, .ref h), (1, .int (nI pa))] := hl
  refine lv_iload_n hx hb d_MPath_first_0 rfl (lv_at hl 1 rfl) ?_
  refine lv_istore_n (lv' := [(2, .int (nI pa)), (0, .ref h), (1, .int (nI pa))]) hx hb d_MPath_first_1 rfl hl (by decide) rfl (fun ls hl => ?_)
  have L_2 : ∀ (n_ : Nat) (i : Nat), i < n_ → (i ≤ pa) → (∀ j, i < j → j ≤ pa → ¬ K j = 0) → ∀ (H : Heap) (locs : List Loc) (ls : Array Slot), va_P D cl [(h, .inr (6, [.ref qk, .ref qp, .int (nI n), .int (bz fu), .int (bz fa)])), (qk, .inl (cB, 3000, .inl K)), (qp, .inl (cI, 18000, .inl P))] H → va_D A [(h, .inr (6, [.ref qk, .ref qp, .int (nI n), .int (bz fu), .int (bz fa)])), (qk, .inl (cB, 3000, .inl K)), (qp, .inl (cI, 18000, .inl P))] → va_S A s.heap H locs → lv_has ls 3 [(0, .ref h), (1, .int (nI pa)), (2, .int (nI i))] → W p l e R s m args below meth c H locs (0) (0) Q (F0 m 2 ls []) := by
    intro n_
    induction n_ with
    | zero => intro i hm_; exact absurd hm_ (Nat.not_lt_zero _)
    | succ n_ ih_2 =>
      intro i hm_ hi hj H locs ls hP hD hS hl
      refine lv_aload_n hx hb d_MPath_first_2 rfl (lv_at hl 0 rfl) ?_
      refine va_get (D := D) (ci := 6) (v := .ref qk) (C := R_MPath) (T := T_MPath) (N := 5) hx hb hts (ui_MPath _) hown hK hP 0 rfl rfl 0 (by decide) (hts _ (gwc gw_507)) (fun _ h9 => h9) rfl d_MPath_first_3 ?_
      refine lv_iload_n hx hb d_MPath_first_6 rfl (lv_at hl 2 rfl) ?_
      refine ld_b hx hb hK hP 1 1 rfl rfl i (by omega) (by omega) d_MPath_first_7 ?_
      refine lv_if_eq (tgt := 17) hx hb d_MPath_first_8 (by decide) (fun c_1 => ?_) (fun c_1 => ?_)
      · skip
        refine lv_iload_n hx hb d_MPath_first_17 rfl (lv_at hl 2 rfl) ?_
        exact ct_reti hQ hx hb hr hlocks hP hD hS (i) [(h, .inr (6, [.ref qk, .ref qp, .int (nI n), .int (bz fu), .int (bz fa)])), (qk, .inl (cB, 3000, .inl K)), (qp, .inl (cI, 18000, .inl P))] [0, 1, 2] (rfl) (⟨hi, c_1, hj⟩) (rfl) rfl rfl (by omega) (by omega) d_MPath_first_18
      · skip
        have hi0 : 0 < i := Nat.pos_of_ne_zero (fun q => c_1 (by rw [q]; exact h0))
        refine lv_iinc (v := nI (i - 1)) (lv' := [(2, .int (nI (i - 1))), (0, .ref h), (1, .int (nI pa))]) hx hb d_MPath_first_11 hl (k := 2) rfl (sb_m1 hi0) (by decide) rfl (fun ls hl => ?_)
        refine lv_goto (tgt := 2) hx hb d_MPath_first_14 (by decide) ?_
        exact ih_2 (i - 1) (by omega) (by omega) (fun j h1 h2 => by
      by_cases h9 : j = i
      · rw [h9]; exact c_1
      · exact hj j (by omega) h2) _ _ _ hP hD hS (lv_sub hl [1, 2, 0] rfl)
  exact L_2 (pa + 1) pa (Nat.lt_succ_self _) (by omega) (fun j h1 h2 => absurd h1 (by omega)) _ _ _ hP hD hS (lv_sub hl [1, 2, 0] rfl)
set_option maxHeartbeats 4000000 in
set_option maxRecDepth 100000 in
/-- open(): a subpath behind closing -/
theorem c_MPath_open (l : Launch) (D : va_G) (cI cB cJ : ClassId) (qQ : Nat) (h : Nat) (qk : Nat) (qp : Nat) (n : Nat) (K : Nat → Int32) (P : Nat → Int32) (fu : Bool) (fa : Bool) (hn : n ≤ 3000) : ct l D cl [(cI, .int), (cB, .byte), (cJ, .long)] (amb qQ) y_MPath_open w_MPath_open 3 79 (0) (0) [.ref h] [(h, .inr (6, [.ref qk, .ref qp, .int (nI n), .int (bz fu), .int (bz fa)])), (qk, .inl (cB, 3000, .inl K)), (qp, .inl (cI, 18000, .inl P))] (fun u_ : Nat × (Nat → Int32) × (Nat → Int32) × Bool × Bool => match u_ with | (n', K', P', fu', fa') => n' ≤ 3000 ∧ (lst n' K' P', fu', fa') = openD (lst n K P, fu, fa)) (fun u_ : Nat × (Nat → Int32) × (Nat → Int32) × Bool × Bool => match u_ with | (n', K', P', fu', fa') => none) (fun u_ : Nat × (Nat → Int32) × (Nat → Int32) × Bool × Bool => match u_ with | (n', K', P', fu', fa') => [(h, .inr (6, [.ref qk, .ref qp, .int (nI n'), .int (bz fu'), .int (bz fa')])), (qk, .inl (cB, 3000, .inl K')), (qp, .inl (cI, 18000, .inl P'))]) := by
  refine ct_ofW (cc := b_MPath_open) (maxL := 1) (ret := none) (by decide) rfl (Nat.le_of_ble_eq_true rfl) ?_
  intro p e R s m args below meth c A Q ls hx hb hr hml hts hown hlocks hname hRf hRc hRs hRl hQ hK hP hD hS hA hM hl
  have hl : lv_has ls 1 [(0, .ref h)] := hl
  refine lv_aload_n hx hb d_MPath_open_0 rfl (lv_at hl 0 rfl) ?_
  refine va_get (D := D) (ci := 6) (v := .int (nI n)) (C := R_MPath) (T := T_MPath) (N := 5) hx hb hts (ui_MPath _) hown hK hP 0 rfl rfl 2 (by decide) (hts _ (gwc gw_510)) (fun _ h9 => h9) rfl d_MPath_open_1 ?_
  refine bz_le (a1 := n) (tgt := 51) hx hb (by omega) d_MPath_open_4 (by decide) (fun c_1 => ?_) (fun c_1 => ?_)
  · skip
    exact ct_retv hQ hx hb hr hlocks hP hD hS (n, K, P, fu, fa) [(h, .inr (6, [.ref qk, .ref qp, .int (nI n), .int (bz fu), .int (bz fa)])), (qk, .inl (cB, 3000, .inl K)), (qp, .inl (cI, 18000, .inl P))] [0, 1, 2] (rfl) (⟨hn, (openD_0 c_1).symm⟩) (rfl) rfl rfl (by omega) (by omega) d_MPath_open_51
  · skip
    refine lv_aload_n hx hb d_MPath_open_7 rfl (lv_at hl 0 rfl) ?_
    refine va_get (D := D) (ci := 6) (v := .ref qk) (C := R_MPath) (T := T_MPath) (N := 5) hx hb hts (ui_MPath _) hown hK hP 0 rfl rfl 0 (by decide) (hts _ (gwc gw_507)) (fun _ h9 => h9) rfl d_MPath_open_8 ?_
    refine lv_aload_n hx hb d_MPath_open_11 rfl (lv_at hl 0 rfl) ?_
    refine va_get (D := D) (ci := 6) (v := .int (nI n)) (C := R_MPath) (T := T_MPath) (N := 5) hx hb hts (ui_MPath _) hown hK hP 0 rfl rfl 2 (by decide) (hts _ (gwc gw_510)) (fun _ h9 => h9) rfl d_MPath_open_12 ?_
    refine lv_iconst (v := 1) hx hb d_MPath_open_15 (by decide) ?_
    refine lv_isub hx hb d_MPath_open_16 ?_
    refine tp_i (nI (n - 1)) (pk_sub (a := n) (b := 1) (by omega)) ?_
    refine ld_b hx hb hK hP 1 1 rfl rfl (n - 1) (by omega) (by omega) d_MPath_open_17 ?_
    refine lv_iconst (v := 3) hx hb d_MPath_open_18 (by decide) ?_
    refine lv_icmp_ne (tgt := 51) hx hb d_MPath_open_19 (by decide) (fun c_2 => ?_) (fun c_2 => ?_)
    · skip
      exact ct_retv hQ hx hb hr hlocks hP hD hS (n, K, P, fu, fa) [(h, .inr (6, [.ref qk, .ref qp, .int (nI n), .int (bz fu), .int (bz fa)])), (qk, .inl (cB, 3000, .inl K)), (qp, .inl (cI, 18000, .inl P))] [0, 1, 2] (rfl) (⟨hn, (openD_n c_1 c_2).symm⟩) (rfl) rfl rfl (by omega) (by omega) d_MPath_open_51
    · skip
      refine lv_aload_n hx hb d_MPath_open_22 rfl (lv_at hl 0 rfl) ?_
      refine lv_iconst (v := 0) hx hb d_MPath_open_23 (by decide) ?_
      refine lv_aload_n hx hb d_MPath_open_24 rfl (lv_at hl 0 rfl) ?_
      refine lv_aload_n hx hb d_MPath_open_25 rfl (lv_at hl 0 rfl) ?_
      refine va_get (D := D) (ci := 6) (v := .int (nI n)) (C := R_MPath) (T := T_MPath) (N := 5) hx hb hts (ui_MPath _) hown hK hP 0 rfl rfl 2 (by decide) (hts _ (gwc gw_510)) (fun _ h9 => h9) rfl d_MPath_open_26 ?_
      refine lv_iconst (v := 1) hx hb d_MPath_open_29 (by decide) ?_
      refine lv_isub hx hb d_MPath_open_30 ?_
      refine tp_i (nI (n - 1)) (pk_sub (a := n) (b := 1) (by omega)) ?_
      refine lv_iconst (v := 0) hx hb d_MPath_open_31 (by decide) ?_
      refine ct_callV (ci := 6) (q0 := 0) (As := [.int (nI (n - 1)), .int 0]) (rest := [.int 0, .ref h]) (wr := []) (n := 2) (c_MPath_get l D cI cB cJ qQ h qk qp n K P fu fa (n - 1) 0 (by omega) (by omega)) hx hb hml hown hts (amb_ok qQ) hK hP hD hS hA hM (gi_V gw_605 gw_560 gw_561 gw_34 gw_562) rfl (by decide +kernel) ⟨by omega, by omega⟩ [0, 1, 2] [] rfl rfl rfl rfl (by decide) rfl rfl rfl hl.1 rfl (Nat.le_of_ble_eq_true rfl) d_MPath_open_32 ⟨by omega, by omega⟩ (fun u_3 H locs hok hP hD hS => ?_)
      have hP : va_P D cl [(h, .inr (6, [.ref qk, .ref qp, .int (nI n), .int (bz fu), .int (bz fa)])), (qk, .inl (cB, 3000, .inl K)), (qp, .inl (cI, 18000, .inl P))] H := hP
      have hD : va_D A [(h, .inr (6, [.ref qk, .ref qp, .int (nI n), .int (bz fu), .int (bz fa)])), (qk, .inl (cB, 3000, .inl K)), (qp, .inl (cI, 18000, .inl P))] := hD
      refine W.eq (g2 := F0 m 35 ls [.int (P (6 * (n - 1) + 0)), .int 0, .ref h]) rfl ?_
      refine lv_i2l (v := (P (6 * (n - 1) + 0)).toInt64) hx hb d_MPath_open_35 rfl ?_
      refine lv_aload_n hx hb d_MPath_open_36 rfl (lv_at hl 0 rfl) ?_
      refine lv_aload_n hx hb d_MPath_open_37 rfl (lv_at hl 0 rfl) ?_
      refine va_get (D := D) (ci := 6) (v := .int (nI n)) (C := R_MPath) (T := T_MPath) (N := 5) hx hb hts (ui_MPath _) hown hK hP 0 rfl rfl 2 (by decide) (hts _ (gwc gw_510)) (fun _ h9 => h9) rfl d_MPath_open_38 ?_
      refine lv_iconst (v := 1) hx hb d_MPath_open_41 (by decide) ?_
      refine lv_isub hx hb d_MPath_open_42 ?_
      refine tp_i (nI (n - 1)) (pk_sub (a := n) (b := 1) (by omega)) ?_
      refine lv_iconst (v := 1) hx hb d_MPath_open_43 (by decide) ?_
      refine ct_callV (ci := 6) (q0 := 0) (As := [.int (nI (n - 1)), .int 1]) (rest := [.long ((P (6 * (n - 1) + 0)).toInt64), .int 0, .ref h]) (wr := []) (n := 2) (c_MPath_get l D cI cB cJ qQ h qk qp n K P fu fa (n - 1) 1 (by omega) (by omega)) hx hb hml hown hts (amb_ok qQ) hK hP hD hS hA hM (gi_V gw_605 gw_560 gw_561 gw_34 gw_562) rfl (by decide +kernel) ⟨by omega, by omega⟩ [0, 1, 2] [] rfl rfl rfl rfl (by decide) rfl rfl rfl hl.1 rfl (Nat.le_of_ble_eq_true rfl) d_MPath_open_44 ⟨by omega, by omega⟩ (fun u_4 H locs hok hP hD hS => ?_)
      have hP : va_P D cl [(h, .inr (6, [.ref qk, .ref qp, .int (nI n), .int (bz fu), .int (bz fa)])), (qk, .inl (cB, 3000, .inl K)), (qp, .inl (cI, 18000, .inl P))] H := hP
      have hD : va_D A [(h, .inr (6, [.ref qk, .ref qp, .int (nI n), .int (bz fu), .int (bz fa)])), (qk, .inl (cB, 3000, .inl K)), (qp, .inl (cI, 18000, .inl P))] := hD
      refine W.eq (g2 := F0 m 47 ls [.int (P (6 * (n - 1) + 1)), .long ((P (6 * (n - 1) + 0)).toInt64), .int 0, .ref h]) rfl ?_
      refine lv_i2l (v := (P (6 * (n - 1) + 1)).toInt64) hx hb d_MPath_open_47 rfl ?_
      refine ct_callV (ci := 6) (q0 := 0) (As := [.int 0, .long ((P (6 * (n - 1) + 0)).toInt64), .long ((P (6 * (n - 1) + 1)).toInt64)]) (rest := []) (wr := []) (n := 3) (c_MPath_addPoint l D cI cB cJ qQ h qk qp n K P fu fa 0 ((P (6 * (n - 1) + 0)).toInt64) ((P (6 * (n - 1) + 1)).toInt64) (hn) (kok0)) hx hb hml hown hts (amb_ok qQ) hK hP hD hS hA hM (gi_V gw_579 gw_580 gw_581 gw_34 gw_582) rfl (by decide +kernel) ⟨by omega, by omega⟩ [0, 1, 2] [] rfl rfl rfl rfl (by decide) rfl rfl rfl hl.1 rfl (Nat.le_of_ble_eq_true rfl) d_MPath_open_48 ⟨by omega, by omega⟩ (fun u_5 H locs hok hP hD hS => ?_)
      obtain ⟨n'_6, K'_7, P'_8, fu'_9, fa'_10⟩ := u_5
      have hok_11 : n'_6 ≤ 3000 ∧ (lst n'_6 K'_7 P'_8, fu'_9, fa'_10) = addD (lst n K P, fu, fa) 0 ((P (6 * (n - 1) + 0)).toInt64) ((P (6 * (n - 1) + 1)).toInt64) 0 0 0 0 := hok
      have hP : va_P D cl [(h, .inr (6, [.ref qk, .ref qp, .int (nI n'_6), .int (bz fu'_9), .int (bz fa'_10)])), (qk, .inl (cB, 3000, .inl K'_7)), (qp, .inl (cI, 18000, .inl P'_8))] H := hP
      have hD : va_D A [(h, .inr (6, [.ref qk, .ref qp, .int (nI n'_6), .int (bz fu'_9), .int (bz fa'_10)])), (qk, .inl (cB, 3000, .inl K'_7)), (qp, .inl (cI, 18000, .inl P'_8))] := hD
      refine W.eq (g2 := F0 m 51 ls []) rfl ?_
      exact ct_retv hQ hx hb hr hlocks hP hD hS (n'_6, K'_7, P'_8, fu'_9, fa'_10) [(h, .inr (6, [.ref qk, .ref qp, .int (nI n'_6), .int (bz fu'_9), .int (bz fa'_10)])), (qk, .inl (cB, 3000, .inl K'_7)), (qp, .inl (cI, 18000, .inl P'_8))] [0, 1, 2] (rfl) (⟨hok_11.1, by rw [hok_11.2, openD_y c_1 c_2]⟩) (rfl) rfl rfl (by omega) (by omega) d_MPath_open_51
set_option maxHeartbeats 4000000 in
set_option maxRecDepth 100000 in
/-- begin(x, y) -/
theorem c_MPath_begin (l : Launch) (D : va_G) (cI cB cJ : ClassId) (qQ : Nat) (h : Nat) (qk : Nat) (qp : Nat) (n : Nat) (K : Nat → Int32) (P : Nat → Int32) (fu : Bool) (fa : Bool) (x : Int64) (y : Int64) (hn : n ≤ 3000) : ct l D cl [(cI, .int), (cB, .byte), (cJ, .long)] (amb qQ) y_MPath_begin w_MPath_begin 3 79 (0) (0) [.ref h, .long x, .long y] [(h, .inr (6, [.ref qk, .ref qp, .int (nI n), .int (bz fu), .int (bz fa)])), (qk, .inl (cB, 3000, .inl K)), (qp, .inl (cI, 18000, .inl P))] (fun u_ : Nat × (Nat → Int32) × (Nat → Int32) × Bool × Bool => match u_ with | (n', K', P', fu', fa') => n' ≤ 3000 ∧ (lst n' K' P', fu', fa') = beginD (lst n K P, fu, fa) x y) (fun u_ : Nat × (Nat → Int32) × (Nat → Int32) × Bool × Bool => match u_ with | (n', K', P', fu', fa') => none) (fun u_ : Nat × (Nat → Int32) × (Nat → Int32) × Bool × Bool => match u_ with | (n', K', P', fu', fa') => [(h, .inr (6, [.ref qk, .ref qp, .int (nI n'), .int (bz fu'), .int (bz fa')])), (qk, .inl (cB, 3000, .inl K')), (qp, .inl (cI, 18000, .inl P'))]) := by
  refine ct_ofW (cc := b_MPath_begin) (maxL := 5) (ret := none) (by decide) rfl (Nat.le_of_ble_eq_true rfl) ?_
  intro p e R s m args below meth c A Q ls hx hb hr hml hts hown hlocks hname hRf hRc hRs hRl hQ hK hP hD hS hA hM hl
  have hl : lv_has ls 5 [(0, .ref h), (1, .long x), (3, .long y)] := hl
  refine lv_aload_n hx hb d_MPath_begin_0 rfl (lv_at hl 0 rfl) ?_
  refine va_get (D := D) (ci := 6) (v := .int (nI n)) (C := R_MPath) (T := T_MPath) (N := 5) hx hb hts (ui_MPath _) hown hK hP 0 rfl rfl 2 (by decide) (hts _ (gwc gw_510)) (fun _ h9 => h9) rfl d_MPath_begin_1 ?_
  refine bz_le (a1 := n) (tgt := 31) hx hb (by omega) d_MPath_begin_4 (by decide) (fun c_1 => ?_) (fun c_1 => ?_)
  · skip
    refine lv_aload_n hx hb d_MPath_begin_31 rfl (lv_at hl 0 rfl) ?_
    refine lv_iconst (v := 0) hx hb d_MPath_begin_32 (by decide) ?_
    refine lv_lload_n hx hb d_MPath_begin_33 rfl (lv_at hl 1 rfl) ?_
    refine lv_lload_n hx hb d_MPath_begin_34 rfl (lv_at hl 2 rfl) ?_
    refine ct_callV (ci := 6) (q0 := 0) (As := [.int 0, .long x, .long y]) (rest := []) (wr := []) (n := 3) (c_MPath_addPoint l D cI cB cJ qQ h qk qp n K P fu fa 0 x y (by omega) (kok0)) hx hb hml hown hts (amb_ok qQ) hK hP hD hS hA hM (gi_V gw_579 gw_580 gw_581 gw_34 gw_582) rfl (by decide +kernel) ⟨by omega, by omega⟩ [0, 1, 2] [] rfl rfl rfl rfl (by decide) rfl rfl rfl hl.1 rfl (Nat.le_of_ble_eq_true rfl) d_MPath_begin_35 ⟨by omega, by omega⟩ (fun u_2 H locs hok hP hD hS => ?_)
    obtain ⟨n'_3, K'_4, P'_5, fu'_6, fa'_7⟩ := u_2
    have hok_8 : n'_3 ≤ 3000 ∧ (lst n'_3 K'_4 P'_5, fu'_6, fa'_7) = addD (lst n K P, fu, fa) 0 x y 0 0 0 0 := hok
    have hP : va_P D cl [(h, .inr (6, [.ref qk, .ref qp, .int (nI n'_3), .int (bz fu'_6), .int (bz fa'_7)])), (qk, .inl (cB, 3000, .inl K'_4)), (qp, .inl (cI, 18000, .inl P'_5))] H := hP
    have hD : va_D A [(h, .inr (6, [.ref qk, .ref qp, .int (nI n'_3), .int (bz fu'_6), .int (bz fa'_7)])), (qk, .inl (cB, 3000, .inl K'_4)), (qp, .inl (cI, 18000, .inl P'_5))] := hD
    refine W.eq (g2 := F0 m 38 ls []) rfl ?_
    exact ct_retv hQ hx hb hr hlocks hP hD hS (n'_3, K'_4, P'_5, fu'_6, fa'_7) [(h, .inr (6, [.ref qk, .ref qp, .int (nI n'_3), .int (bz fu'_6), .int (bz fa'_7)])), (qk, .inl (cB, 3000, .inl K'_4)), (qp, .inl (cI, 18000, .inl P'_5))] [0, 1, 2] (rfl) (⟨hok_8.1, by rw [hok_8.2, beginD_0 c_1]⟩) (rfl) rfl rfl (by omega) (by omega) d_MPath_begin_38
  · skip
    refine lv_aload_n hx hb d_MPath_begin_7 rfl (lv_at hl 0 rfl) ?_
    refine va_get (D := D) (ci := 6) (v := .ref qk) (C := R_MPath) (T := T_MPath) (N := 5) hx hb hts (ui_MPath _) hown hK hP 0 rfl rfl 0 (by decide) (hts _ (gwc gw_507)) (fun _ h9 => h9) rfl d_MPath_begin_8 ?_
    refine lv_aload_n hx hb d_MPath_begin_11 rfl (lv_at hl 0 rfl) ?_
    refine va_get (D := D) (ci := 6) (v := .int (nI n)) (C := R_MPath) (T := T_MPath) (N := 5) hx hb hts (ui_MPath _) hown hK hP 0 rfl rfl 2 (by decide) (hts _ (gwc gw_510)) (fun _ h9 => h9) rfl d_MPath_begin_12 ?_
    refine lv_iconst (v := 1) hx hb d_MPath_begin_15 (by decide) ?_
    refine lv_isub hx hb d_MPath_begin_16 ?_
    refine tp_i (nI (n - 1)) (pk_sub (a := n) (b := 1) (by omega)) ?_
    refine ld_b hx hb hK hP 1 1 rfl rfl (n - 1) (by omega) (by omega) d_MPath_begin_17 ?_
    refine lv_if_ne (tgt := 31) hx hb d_MPath_begin_18 (by decide) (fun c_9 => ?_) (fun c_9 => ?_)
    · skip
      refine lv_aload_n hx hb d_MPath_begin_31 rfl (lv_at hl 0 rfl) ?_
      refine lv_iconst (v := 0) hx hb d_MPath_begin_32 (by decide) ?_
      refine lv_lload_n hx hb d_MPath_begin_33 rfl (lv_at hl 1 rfl) ?_
      refine lv_lload_n hx hb d_MPath_begin_34 rfl (lv_at hl 2 rfl) ?_
      refine ct_callV (ci := 6) (q0 := 0) (As := [.int 0, .long x, .long y]) (rest := []) (wr := []) (n := 3) (c_MPath_addPoint l D cI cB cJ qQ h qk qp n K P fu fa 0 x y (by omega) (kok0)) hx hb hml hown hts (amb_ok qQ) hK hP hD hS hA hM (gi_V gw_579 gw_580 gw_581 gw_34 gw_582) rfl (by decide +kernel) ⟨by omega, by omega⟩ [0, 1, 2] [] rfl rfl rfl rfl (by decide) rfl rfl rfl hl.1 rfl (Nat.le_of_ble_eq_true rfl) d_MPath_begin_35 ⟨by omega, by omega⟩ (fun u_10 H locs hok hP hD hS => ?_)
      obtain ⟨n'_11, K'_12, P'_13, fu'_14, fa'_15⟩ := u_10
      have hok_16 : n'_11 ≤ 3000 ∧ (lst n'_11 K'_12 P'_13, fu'_14, fa'_15) = addD (lst n K P, fu, fa) 0 x y 0 0 0 0 := hok
      have hP : va_P D cl [(h, .inr (6, [.ref qk, .ref qp, .int (nI n'_11), .int (bz fu'_14), .int (bz fa'_15)])), (qk, .inl (cB, 3000, .inl K'_12)), (qp, .inl (cI, 18000, .inl P'_13))] H := hP
      have hD : va_D A [(h, .inr (6, [.ref qk, .ref qp, .int (nI n'_11), .int (bz fu'_14), .int (bz fa'_15)])), (qk, .inl (cB, 3000, .inl K'_12)), (qp, .inl (cI, 18000, .inl P'_13))] := hD
      refine W.eq (g2 := F0 m 38 ls []) rfl ?_
      exact ct_retv hQ hx hb hr hlocks hP hD hS (n'_11, K'_12, P'_13, fu'_14, fa'_15) [(h, .inr (6, [.ref qk, .ref qp, .int (nI n'_11), .int (bz fu'_14), .int (bz fa'_15)])), (qk, .inl (cB, 3000, .inl K'_12)), (qp, .inl (cI, 18000, .inl P'_13))] [0, 1, 2] (rfl) (⟨hok_16.1, by rw [hok_16.2, beginD_n c_1 c_9]⟩) (rfl) rfl rfl (by omega) (by omega) d_MPath_begin_38
    · skip
      refine lv_aload_n hx hb d_MPath_begin_21 rfl (lv_at hl 0 rfl) ?_
      refine lv_dup hx hb d_MPath_begin_22 rfl ?_
      refine va_get (D := D) (ci := 6) (v := .int (nI n)) (C := R_MPath) (T := T_MPath) (N := 5) hx hb hts (ui_MPath _) hown hK hP 0 rfl rfl 2 (by decide) (hts _ (gwc gw_510)) (fun _ h9 => h9) rfl d_MPath_begin_23 ?_
      refine lv_iconst (v := 1) hx hb d_MPath_begin_26 (by decide) ?_
      refine lv_isub hx hb d_MPath_begin_27 ?_
      refine tp_i (nI (n - 1)) (pk_sub (a := n) (b := 1) (by omega)) ?_
      refine va_put (D := D) (ci := 6) (v := .int (nI (n - 1))) (ty := .int) (C := R_MPath) (T := T_MPath) (N := 5) hx hb hts (ui_MPath _) t_MPath tk_MPath nk_MPath hown hK hP hD hS 0 rfl rfl 2 (by decide) (hts _ (gwc gw_510)) (fun _ h9 => h9) rfl (by decide +kernel) rfl rfl (Nat.le_of_ble_eq_true rfl) d_MPath_begin_28 (fun H locs hP hD hS => ?_)
      have hP : va_P D cl [(h, .inr (6, [.ref qk, .ref qp, .int (nI (n - 1)), .int (bz fu), .int (bz fa)])), (qk, .inl (cB, 3000, .inl K)), (qp, .inl (cI, 18000, .inl P))] H := hP
      have hD : va_D A [(h, .inr (6, [.ref qk, .ref qp, .int (nI (n - 1)), .int (bz fu), .int (bz fa)])), (qk, .inl (cB, 3000, .inl K)), (qp, .inl (cI, 18000, .inl P))] := hD
      refine lv_aload_n hx hb d_MPath_begin_31 rfl (lv_at hl 0 rfl) ?_
      refine lv_iconst (v := 0) hx hb d_MPath_begin_32 (by decide) ?_
      refine lv_lload_n hx hb d_MPath_begin_33 rfl (lv_at hl 1 rfl) ?_
      refine lv_lload_n hx hb d_MPath_begin_34 rfl (lv_at hl 2 rfl) ?_
      refine ct_callV (ci := 6) (q0 := 0) (As := [.int 0, .long x, .long y]) (rest := []) (wr := []) (n := 3) (c_MPath_addPoint l D cI cB cJ qQ h qk qp (n - 1) K P fu fa 0 x y (by omega) (kok0)) hx hb hml hown hts (amb_ok qQ) hK hP hD hS hA hM (gi_V gw_579 gw_580 gw_581 gw_34 gw_582) rfl (by decide +kernel) ⟨by omega, by omega⟩ [0, 1, 2] [] rfl rfl rfl rfl (by decide) rfl rfl rfl hl.1 rfl (Nat.le_of_ble_eq_true rfl) d_MPath_begin_35 ⟨by omega, by omega⟩ (fun u_17 H locs hok hP hD hS => ?_)
      obtain ⟨n'_18, K'_19, P'_20, fu'_21, fa'_22⟩ := u_17
      have hok_23 : n'_18 ≤ 3000 ∧ (lst n'_18 K'_19 P'_20, fu'_21, fa'_22) = addD (lst (n - 1) K P, fu, fa) 0 x y 0 0 0 0 := hok
      have hP : va_P D cl [(h, .inr (6, [.ref qk, .ref qp, .int (nI n'_18), .int (bz fu'_21), .int (bz fa'_22)])), (qk, .inl (cB, 3000, .inl K'_19)), (qp, .inl (cI, 18000, .inl P'_20))] H := hP
      have hD : va_D A [(h, .inr (6, [.ref qk, .ref qp, .int (nI n'_18), .int (bz fu'_21), .int (bz fa'_22)])), (qk, .inl (cB, 3000, .inl K'_19)), (qp, .inl (cI, 18000, .inl P'_20))] := hD
      refine W.eq (g2 := F0 m 38 ls []) rfl ?_
      exact ct_retv hQ hx hb hr hlocks hP hD hS (n'_18, K'_19, P'_20, fu'_21, fa'_22) [(h, .inr (6, [.ref qk, .ref qp, .int (nI n'_18), .int (bz fu'_21), .int (bz fa'_22)])), (qk, .inl (cB, 3000, .inl K'_19)), (qp, .inl (cI, 18000, .inl P'_20))] [0, 1, 2] (rfl) (⟨hok_23.1, by rw [hok_23.2, beginD_y c_1 c_9]⟩) (rfl) rfl rfl (by omega) (by omega) d_MPath_begin_38
end
section
theorem d_M_init_0 : decode b_M_init 0 = .ok (.aload_n 0, 1) := by decide +kernel
theorem d_M_init_1 : decode b_M_init 1 = .ok (.invokespecial 1, 3) := by decide +kernel
theorem d_M_init_4 : decode b_M_init 4 = .ok (.aload_n 0, 1) := by decide +kernel
theorem d_M_init_5 : decode b_M_init 5 = .ok (.new 7, 3) := by decide +kernel
theorem d_M_init_8 : decode b_M_init 8 = .ok (.dup, 1) := by decide +kernel
theorem d_M_init_9 : decode b_M_init 9 = .ok (.invokespecial 9, 3) := by decide +kernel
theorem d_M_init_12 : decode b_M_init 12 = .ok (.putfield 10, 3) := by decide +kernel
theorem d_M_init_15 : decode b_M_init 15 = .ok (.aload_n 0, 1) := by decide +kernel
theorem d_M_init_16 : decode b_M_init 16 = .ok (.new 7, 3) := by decide +kernel
theorem d_M_init_19 : decode b_M_init 19 = .ok (.dup, 1) := by decide +kernel
theorem d_M_init_20 : decode b_M_init 20 = .ok (.invokespecial 9, 3) := by decide +kernel
theorem d_M_init_23 : decode b_M_init 23 = .ok (.putfield 16, 3) := by decide +kernel
theorem d_M_init_26 : decode b_M_init 26 = .ok (.aload_n 0, 1) := by decide +kernel
theorem d_M_init_27 : decode b_M_init 27 = .ok (.iconst 4, 1) := by decide +kernel
theorem d_M_init_28 : decode b_M_init 28 = .ok (.newarray .long, 2) := by decide +kernel
theorem d_M_init_30 : decode b_M_init 30 = .ok (.putfield 19, 3) := by decide +kernel
theorem d_M_init_33 : decode b_M_init 33 = .ok (.aload_n 0, 1) := by decide +kernel
theorem d_M_init_34 : decode b_M_init 34 = .ok (.bipush 8, 2) := by decide +kernel
theorem d_M_init_36 : decode b_M_init 36 = .ok (.newarray .long, 2) := by decide +kernel
theorem d_M_init_38 : decode b_M_init 38 = .ok (.putfield 23, 3) := by decide +kernel
theorem d_M_init_41 : decode b_M_init 41 = .ok (.aload_n 0, 1) := by decide +kernel
theorem d_M_init_42 : decode b_M_init 42 = .ok (.bipush 8, 2) := by decide +kernel
theorem d_M_init_44 : decode b_M_init 44 = .ok (.newarray .long, 2) := by decide +kernel
theorem d_M_init_46 : decode b_M_init 46 = .ok (.putfield 26, 3) := by decide +kernel
theorem d_M_init_49 : decode b_M_init 49 = .ok (.aload_n 0, 1) := by decide +kernel
theorem d_M_init_50 : decode b_M_init 50 = .ok (.bipush 8, 2) := by decide +kernel
theorem d_M_init_52 : decode b_M_init 52 = .ok (.newarray .long, 2) := by decide +kernel
theorem d_M_init_54 : decode b_M_init 54 = .ok (.putfield 29, 3) := by decide +kernel
theorem d_M_init_57 : decode b_M_init 57 = .ok (.aload_n 0, 1) := by decide +kernel
theorem d_M_init_58 : decode b_M_init 58 = .ok (.bipush 8, 2) := by decide +kernel
theorem d_M_init_60 : decode b_M_init 60 = .ok (.newarray .long, 2) := by decide +kernel
theorem d_M_init_62 : decode b_M_init 62 = .ok (.putfield 32, 3) := by decide +kernel
theorem d_M_init_65 : decode b_M_init 65 = .ok (.return_, 1) := by decide +kernel
theorem d_M_settle_0 : decode b_M_settle 0 = .ok (.aload_n 0, 1) := by decide +kernel
theorem d_M_settle_1 : decode b_M_settle 1 = .ok (.getfield 16, 3) := by decide +kernel
theorem d_M_settle_4 : decode b_M_settle 4 = .ok (.getfield 35, 3) := by decide +kernel
theorem d_M_settle_7 : decode b_M_settle 7 = .ok (.ifCond .eq 6, 3) := by decide +kernel
theorem d_M_settle_10 : decode b_M_settle 10 = .ok (.bipush (-4), 2) := by decide +kernel
theorem d_M_settle_12 : decode b_M_settle 12 = .ok (.ireturn, 1) := by decide +kernel
theorem d_M_settle_13 : decode b_M_settle 13 = .ok (.aload_n 0, 1) := by decide +kernel
theorem d_M_settle_14 : decode b_M_settle 14 = .ok (.getfield 16, 3) := by decide +kernel
theorem d_M_settle_17 : decode b_M_settle 17 = .ok (.getfield 39, 3) := by decide +kernel
theorem d_M_settle_20 : decode b_M_settle 20 = .ok (.ifCond .eq 6, 3) := by decide +kernel
theorem d_M_settle_23 : decode b_M_settle 23 = .ok (.bipush (-3), 2) := by decide +kernel
theorem d_M_settle_25 : decode b_M_settle 25 = .ok (.ireturn, 1) := by decide +kernel
theorem d_M_settle_26 : decode b_M_settle 26 = .ok (.aload_n 0, 1) := by decide +kernel
theorem d_M_settle_27 : decode b_M_settle 27 = .ok (.getfield 10, 3) := by decide +kernel
theorem d_M_settle_30 : decode b_M_settle 30 = .ok (.astore_n 1, 1) := by decide +kernel
theorem d_M_settle_31 : decode b_M_settle 31 = .ok (.aload_n 0, 1) := by decide +kernel
theorem d_M_settle_32 : decode b_M_settle 32 = .ok (.aload_n 0, 1) := by decide +kernel
theorem d_M_settle_33 : decode b_M_settle 33 = .ok (.getfield 16, 3) := by decide +kernel
theorem d_M_settle_36 : decode b_M_settle 36 = .ok (.putfield 10, 3) := by decide +kernel
theorem d_M_settle_39 : decode b_M_settle 39 = .ok (.aload_n 0, 1) := by decide +kernel
theorem d_M_settle_40 : decode b_M_settle 40 = .ok (.aload_n 1, 1) := by decide +kernel
theorem d_M_settle_41 : decode b_M_settle 41 = .ok (.putfield 16, 3) := by decide +kernel
theorem d_M_settle_44 : decode b_M_settle 44 = .ok (.aload_n 0, 1) := by decide +kernel
theorem d_M_settle_45 : decode b_M_settle 45 = .ok (.getfield 10, 3) := by decide +kernel
theorem d_M_settle_48 : decode b_M_settle 48 = .ok (.getfield 42, 3) := by decide +kernel
theorem d_M_settle_51 : decode b_M_settle 51 = .ok (.ireturn, 1) := by decide +kernel
theorem d_M_isPoint_0 : decode b_M_isPoint 0 = .ok (.aload_n 0, 1) := by decide +kernel
theorem d_M_isPoint_1 : decode b_M_isPoint 1 = .ok (.getfield 10, 3) := by decide +kernel
theorem d_M_isPoint_4 : decode b_M_isPoint 4 = .ok (.getfield 42, 3) := by decide +kernel
theorem d_M_isPoint_7 : decode b_M_isPoint 7 = .ok (.ifCond .le 7, 3) := by decide +kernel
theorem d_M_isPoint_10 : decode b_M_isPoint 10 = .ok (.iconst 1, 1) := by decide +kernel
theorem d_M_isPoint_11 : decode b_M_isPoint 11 = .ok (.goto 4, 3) := by decide +kernel
theorem d_M_isPoint_14 : decode b_M_isPoint 14 = .ok (.iconst 0, 1) := by decide +kernel
theorem d_M_isPoint_15 : decode b_M_isPoint 15 = .ok (.ireturn, 1) := by decide +kernel
theorem d_M_point_0 : decode b_M_point 0 = .ok (.aload_n 0, 1) := by decide +kernel
theorem d_M_point_1 : decode b_M_point 1 = .ok (.getfield 10, 3) := by decide +kernel
theorem d_M_point_4 : decode b_M_point 4 = .ok (.getfield 42, 3) := by decide +kernel
theorem d_M_point_7 : decode b_M_point 7 = .ok (.ifCond .le 32, 3) := by decide +kernel
theorem d_M_point_10 : decode b_M_point 10 = .ok (.iload_n 1, 1) := by decide +kernel
theorem d_M_point_11 : decode b_M_point 11 = .ok (.ifCond .eq 8, 3) := by decide +kernel
theorem d_M_point_14 : decode b_M_point 14 = .ok (.iload_n 1, 1) := by decide +kernel
theorem d_M_point_15 : decode b_M_point 15 = .ok (.iconst 1, 1) := by decide +kernel
theorem d_M_point_16 : decode b_M_point 16 = .ok (.if_icmp .ne 23, 3) := by decide +kernel
theorem d_M_point_19 : decode b_M_point 19 = .ok (.aload_n 0, 1) := by decide +kernel
theorem d_M_point_20 : decode b_M_point 20 = .ok (.getfield 10, 3) := by decide +kernel
theorem d_M_point_23 : decode b_M_point 23 = .ok (.aload_n 0, 1) := by decide +kernel
theorem d_M_point_24 : decode b_M_point 24 = .ok (.getfield 10, 3) := by decide +kernel
theorem d_M_point_27 : decode b_M_point 27 = .ok (.getfield 42, 3) := by decide +kernel
theorem d_M_point_30 : decode b_M_point 30 = .ok (.iconst 1, 1) := by decide +kernel
theorem d_M_point_31 : decode b_M_point 31 = .ok (.isub, 1) := by decide +kernel
theorem d_M_point_32 : decode b_M_point 32 = .ok (.iload_n 1, 1) := by decide +kernel
theorem d_M_point_33 : decode b_M_point 33 = .ok (.invokevirtual 46, 3) := by decide +kernel
theorem d_M_point_36 : decode b_M_point 36 = .ok (.goto 4, 3) := by decide +kernel
theorem d_M_point_39 : decode b_M_point 39 = .ok (.iconst 0, 1) := by decide +kernel
theorem d_M_point_40 : decode b_M_point 40 = .ok (.ireturn, 1) := by decide +kernel
theorem d_M_move_0 : decode b_M_move 0 = .ok (.aload_n 0, 1) := by decide +kernel
theorem d_M_move_1 : decode b_M_move 1 = .ok (.getfield 16, 3) := by decide +kernel
theorem d_M_move_4 : decode b_M_move 4 = .ok (.aload_n 0, 1) := by decide +kernel
theorem d_M_move_5 : decode b_M_move 5 = .ok (.getfield 10, 3) := by decide +kernel
theorem d_M_move_8 : decode b_M_move 8 = .ok (.invokevirtual 50, 3) := by decide +kernel
theorem d_M_move_11 : decode b_M_move 11 = .ok (.aload_n 0, 1) := by decide +kernel
theorem d_M_move_12 : decode b_M_move 12 = .ok (.getfield 16, 3) := by decide +kernel
theorem d_M_move_15 : decode b_M_move 15 = .ok (.iload_n 1, 1) := by decide +kernel
theorem d_M_move_16 : decode b_M_move 16 = .ok (.i2l, 1) := by decide +kernel
theorem d_M_move_17 : decode b_M_move 17 = .ok (.iload_n 2, 1) := by decide +kernel
theorem d_M_move_18 : decode b_M_move 18 = .ok (.i2l, 1) := by decide +kernel
theorem d_M_move_19 : decode b_M_move 19 = .ok (.invokevirtual 54, 3) := by decide +kernel
theorem d_M_move_22 : decode b_M_move 22 = .ok (.aload_n 0, 1) := by decide +kernel
theorem d_M_move_23 : decode b_M_move 23 = .ok (.invokevirtual 58, 3) := by decide +kernel
theorem d_M_move_26 : decode b_M_move 26 = .ok (.ireturn, 1) := by decide +kernel
theorem d_M_line_0 : decode b_M_line 0 = .ok (.aload_n 0, 1) := by decide +kernel
theorem d_M_line_1 : decode b_M_line 1 = .ok (.invokevirtual 62, 3) := by decide +kernel
theorem d_M_line_4 : decode b_M_line 4 = .ok (.ifCond .ne 6, 3) := by decide +kernel
theorem d_M_line_7 : decode b_M_line 7 = .ok (.bipush (-2), 2) := by decide +kernel
theorem d_M_line_9 : decode b_M_line 9 = .ok (.ireturn, 1) := by decide +kernel
theorem d_M_line_10 : decode b_M_line 10 = .ok (.aload_n 0, 1) := by decide +kernel
theorem d_M_line_11 : decode b_M_line 11 = .ok (.getfield 16, 3) := by decide +kernel
theorem d_M_line_14 : decode b_M_line 14 = .ok (.aload_n 0, 1) := by decide +kernel
theorem d_M_line_15 : decode b_M_line 15 = .ok (.getfield 10, 3) := by decide +kernel
theorem d_M_line_18 : decode b_M_line 18 = .ok (.invokevirtual 50, 3) := by decide +kernel
theorem d_M_line_21 : decode b_M_line 21 = .ok (.aload_n 0, 1) := by decide +kernel
theorem d_M_line_22 : decode b_M_line 22 = .ok (.getfield 16, 3) := by decide +kernel
theorem d_M_line_25 : decode b_M_line 25 = .ok (.invokevirtual 66, 3) := by decide +kernel
theorem d_M_line_28 : decode b_M_line 28 = .ok (.aload_n 0, 1) := by decide +kernel
theorem d_M_line_29 : decode b_M_line 29 = .ok (.getfield 16, 3) := by decide +kernel
theorem d_M_line_32 : decode b_M_line 32 = .ok (.iconst 1, 1) := by decide +kernel
theorem d_M_line_33 : decode b_M_line 33 = .ok (.iload_n 1, 1) := by decide +kernel
theorem d_M_line_34 : decode b_M_line 34 = .ok (.i2l, 1) := by decide +kernel
theorem d_M_line_35 : decode b_M_line 35 = .ok (.iload_n 2, 1) := by decide +kernel
theorem d_M_line_36 : decode b_M_line 36 = .ok (.i2l, 1) := by decide +kernel
theorem d_M_line_37 : decode b_M_line 37 = .ok (.invokevirtual 69, 3) := by decide +kernel
theorem d_M_line_40 : decode b_M_line 40 = .ok (.aload_n 0, 1) := by decide +kernel
theorem d_M_line_41 : decode b_M_line 41 = .ok (.invokevirtual 58, 3) := by decide +kernel
theorem d_M_line_44 : decode b_M_line 44 = .ok (.ireturn, 1) := by decide +kernel
theorem d_M_curve_0 : decode b_M_curve 0 = .ok (.aload_n 0, 1) := by decide +kernel
theorem d_M_curve_1 : decode b_M_curve 1 = .ok (.invokevirtual 62, 3) := by decide +kernel
theorem d_M_curve_4 : decode b_M_curve 4 = .ok (.ifCond .ne 6, 3) := by decide +kernel
theorem d_M_curve_7 : decode b_M_curve 7 = .ok (.bipush (-2), 2) := by decide +kernel
theorem d_M_curve_9 : decode b_M_curve 9 = .ok (.ireturn, 1) := by decide +kernel
theorem d_M_curve_10 : decode b_M_curve 10 = .ok (.aload_n 0, 1) := by decide +kernel
theorem d_M_curve_11 : decode b_M_curve 11 = .ok (.getfield 16, 3) := by decide +kernel
theorem d_M_curve_14 : decode b_M_curve 14 = .ok (.aload_n 0, 1) := by decide +kernel
theorem d_M_curve_15 : decode b_M_curve 15 = .ok (.getfield 10, 3) := by decide +kernel
theorem d_M_curve_18 : decode b_M_curve 18 = .ok (.invokevirtual 50, 3) := by decide +kernel
theorem d_M_curve_21 : decode b_M_curve 21 = .ok (.aload_n 0, 1) := by decide +kernel
theorem d_M_curve_22 : decode b_M_curve 22 = .ok (.getfield 16, 3) := by decide +kernel
theorem d_M_curve_25 : decode b_M_curve 25 = .ok (.invokevirtual 66, 3) := by decide +kernel
theorem d_M_curve_28 : decode b_M_curve 28 = .ok (.aload_n 0, 1) := by decide +kernel
theorem d_M_curve_29 : decode b_M_curve 29 = .ok (.getfield 16, 3) := by decide +kernel
theorem d_M_curve_32 : decode b_M_curve 32 = .ok (.iconst 2, 1) := by decide +kernel
theorem d_M_curve_33 : decode b_M_curve 33 = .ok (.iload 5, 2) := by decide +kernel
theorem d_M_curve_35 : decode b_M_curve 35 = .ok (.i2l, 1) := by decide +kernel
theorem d_M_curve_36 : decode b_M_curve 36 = .ok (.iload 6, 2) := by decide +kernel
theorem d_M_curve_38 : decode b_M_curve 38 = .ok (.i2l, 1) := by decide +kernel
theorem d_M_curve_39 : decode b_M_curve 39 = .ok (.iload_n 1, 1) := by decide +kernel
theorem d_M_curve_40 : decode b_M_curve 40 = .ok (.i2l, 1) := by decide +kernel
theorem d_M_curve_41 : decode b_M_curve 41 = .ok (.iload_n 2, 1) := by decide +kernel
theorem d_M_curve_42 : decode b_M_curve 42 = .ok (.i2l, 1) := by decide +kernel
theorem d_M_curve_43 : decode b_M_curve 43 = .ok (.iload_n 3, 1) := by decide +kernel
theorem d_M_curve_44 : decode b_M_curve 44 = .ok (.i2l, 1) := by decide +kernel
theorem d_M_curve_45 : decode b_M_curve 45 = .ok (.iload 4, 2) := by decide +kernel
theorem d_M_curve_47 : decode b_M_curve 47 = .ok (.i2l, 1) := by decide +kernel
theorem d_M_curve_48 : decode b_M_curve 48 = .ok (.invokevirtual 73, 3) := by decide +kernel
theorem d_M_curve_51 : decode b_M_curve 51 = .ok (.aload_n 0, 1) := by decide +kernel
theorem d_M_curve_52 : decode b_M_curve 52 = .ok (.invokevirtual 58, 3) := by decide +kernel
theorem d_M_curve_55 : decode b_M_curve 55 = .ok (.ireturn, 1) := by decide +kernel
theorem d_M_close_0 : decode b_M_close 0 = .ok (.aload_n 0, 1) := by decide +kernel
theorem d_M_close_1 : decode b_M_close 1 = .ok (.getfield 10, 3) := by decide +kernel
theorem d_M_close_4 : decode b_M_close 4 = .ok (.getfield 42, 3) := by decide +kernel
theorem d_M_close_7 : decode b_M_close 7 = .ok (.ifCond .eq 24, 3) := by decide +kernel
theorem d_M_close_10 : decode b_M_close 10 = .ok (.aload_n 0, 1) := by decide +kernel
theorem d_M_close_11 : decode b_M_close 11 = .ok (.getfield 10, 3) := by decide +kernel
theorem d_M_close_14 : decode b_M_close 14 = .ok (.getfield 77, 3) := by decide +kernel
theorem d_M_close_17 : decode b_M_close 17 = .ok (.aload_n 0, 1) := by decide +kernel
theorem d_M_close_18 : decode b_M_close 18 = .ok (.getfield 10, 3) := by decide +kernel
theorem d_M_close_21 : decode b_M_close 21 = .ok (.getfield 42, 3) := by decide +kernel
theorem d_M_close_24 : decode b_M_close 24 = .ok (.iconst 1, 1) := by decide +kernel
theorem d_M_close_25 : decode b_M_close 25 = .ok (.isub, 1) := by decide +kernel
theorem d_M_close_26 : decode b_M_close 26 = .ok (.baload, 1) := by decide +kernel
theorem d_M_close_27 : decode b_M_close 27 = .ok (.iconst 3, 1) := by decide +kernel
theorem d_M_close_28 : decode b_M_close 28 = .ok (.if_icmp .ne 11, 3) := by decide +kernel
theorem d_M_close_31 : decode b_M_close 31 = .ok (.aload_n 0, 1) := by decide +kernel
theorem d_M_close_32 : decode b_M_close 32 = .ok (.getfield 10, 3) := by decide +kernel
theorem d_M_close_35 : decode b_M_close 35 = .ok (.getfield 42, 3) := by decide +kernel
theorem d_M_close_38 : decode b_M_close 38 = .ok (.ireturn, 1) := by decide +kernel
theorem d_M_close_39 : decode b_M_close 39 = .ok (.aload_n 0, 1) := by decide +kernel
theorem d_M_close_40 : decode b_M_close 40 = .ok (.getfield 16, 3) := by decide +kernel
theorem d_M_close_43 : decode b_M_close 43 = .ok (.aload_n 0, 1) := by decide +kernel
theorem d_M_close_44 : decode b_M_close 44 = .ok (.getfield 10, 3) := by decide +kernel
theorem d_M_close_47 : decode b_M_close 47 = .ok (.invokevirtual 50, 3) := by decide +kernel
theorem d_M_close_50 : decode b_M_close 50 = .ok (.aload_n 0, 1) := by decide +kernel
theorem d_M_close_51 : decode b_M_close 51 = .ok (.getfield 10, 3) := by decide +kernel
theorem d_M_close_54 : decode b_M_close 54 = .ok (.aload_n 0, 1) := by decide +kernel
theorem d_M_close_55 : decode b_M_close 55 = .ok (.getfield 10, 3) := by decide +kernel
theorem d_M_close_58 : decode b_M_close 58 = .ok (.getfield 42, 3) := by decide +kernel
theorem d_M_close_61 : decode b_M_close 61 = .ok (.iconst 1, 1) := by decide +kernel
theorem d_M_close_62 : decode b_M_close 62 = .ok (.isub, 1) := by decide +kernel
theorem d_M_close_63 : decode b_M_close 63 = .ok (.invokevirtual 81, 3) := by decide +kernel
theorem d_M_close_66 : decode b_M_close 66 = .ok (.istore_n 1, 1) := by decide +kernel
theorem d_M_close_67 : decode b_M_close 67 = .ok (.aload_n 0, 1) := by decide +kernel
theorem d_M_close_68 : decode b_M_close 68 = .ok (.getfield 16, 3) := by decide +kernel
theorem d_M_close_71 : decode b_M_close 71 = .ok (.iconst 3, 1) := by decide +kernel
theorem d_M_close_72 : decode b_M_close 72 = .ok (.aload_n 0, 1) := by decide +kernel
theorem d_M_close_73 : decode b_M_close 73 = .ok (.getfield 10, 3) := by decide +kernel
theorem d_M_close_76 : decode b_M_close 76 = .ok (.iload_n 1, 1) := by decide +kernel
theorem d_M_close_77 : decode b_M_close 77 = .ok (.iconst 0, 1) := by decide +kernel
theorem d_M_close_78 : decode b_M_close 78 = .ok (.invokevirtual 46, 3) := by decide +kernel
theorem d_M_close_81 : decode b_M_close 81 = .ok (.i2l, 1) := by decide +kernel
theorem d_M_close_82 : decode b_M_close 82 = .ok (.aload_n 0, 1) := by decide +kernel
theorem d_M_close_83 : decode b_M_close 83 = .ok (.getfield 10, 3) := by decide +kernel
theorem d_M_close_86 : decode b_M_close 86 = .ok (.iload_n 1, 1) := by decide +kernel
theorem d_M_close_87 : decode b_M_close 87 = .ok (.iconst 1, 1) := by decide +kernel
theorem d_M_close_88 : decode b_M_close 88 = .ok (.invokevirtual 46, 3) := by decide +kernel
theorem d_M_close_91 : decode b_M_close 91 = .ok (.i2l, 1) := by decide +kernel
theorem d_M_close_92 : decode b_M_close 92 = .ok (.invokevirtual 69, 3) := by decide +kernel
theorem d_M_close_95 : decode b_M_close 95 = .ok (.aload_n 0, 1) := by decide +kernel
theorem d_M_close_96 : decode b_M_close 96 = .ok (.invokevirtual 58, 3) := by decide +kernel
theorem d_M_close_99 : decode b_M_close 99 = .ok (.ireturn, 1) := by decide +kernel
theorem d_M_clear_0 : decode b_M_clear 0 = .ok (.aload_n 0, 1) := by decide +kernel
theorem d_M_clear_1 : decode b_M_clear 1 = .ok (.getfield 10, 3) := by decide +kernel
theorem d_M_clear_4 : decode b_M_clear 4 = .ok (.getfield 42, 3) := by decide +kernel
theorem d_M_clear_7 : decode b_M_clear 7 = .ok (.istore_n 1, 1) := by decide +kernel
theorem d_M_clear_8 : decode b_M_clear 8 = .ok (.aload_n 0, 1) := by decide +kernel
theorem d_M_clear_9 : decode b_M_clear 9 = .ok (.getfield 10, 3) := by decide +kernel
theorem d_M_clear_12 : decode b_M_clear 12 = .ok (.invokevirtual 85, 3) := by decide +kernel
theorem d_M_clear_15 : decode b_M_clear 15 = .ok (.iload_n 1, 1) := by decide +kernel
theorem d_M_clear_16 : decode b_M_clear 16 = .ok (.ireturn, 1) := by decide +kernel
theorem d_M_axes_0 : decode b_M_axes 0 = .ok (.iload_n 1, 1) := by decide +kernel
theorem d_M_axes_1 : decode b_M_axes 1 = .ok (.i2l, 1) := by decide +kernel
theorem d_M_axes_2 : decode b_M_axes 2 = .ok (.invokestatic 88, 3) := by decide +kernel
theorem d_M_axes_5 : decode b_M_axes 5 = .ok (.ifCond .ne 28, 3) := by decide +kernel
theorem d_M_axes_8 : decode b_M_axes 8 = .ok (.iload_n 2, 1) := by decide +kernel
theorem d_M_axes_9 : decode b_M_axes 9 = .ok (.i2l, 1) := by decide +kernel
theorem d_M_axes_10 : decode b_M_axes 10 = .ok (.invokestatic 88, 3) := by decide +kernel
theorem d_M_axes_13 : decode b_M_axes 13 = .ok (.ifCond .ne 20, 3) := by decide +kernel
theorem d_M_axes_16 : decode b_M_axes 16 = .ok (.iload_n 3, 1) := by decide +kernel
theorem d_M_axes_17 : decode b_M_axes 17 = .ok (.i2l, 1) := by decide +kernel
theorem d_M_axes_18 : decode b_M_axes 18 = .ok (.invokestatic 88, 3) := by decide +kernel
theorem d_M_axes_21 : decode b_M_axes 21 = .ok (.ifCond .ne 12, 3) := by decide +kernel
theorem d_M_axes_24 : decode b_M_axes 24 = .ok (.iload 4, 2) := by decide +kernel
theorem d_M_axes_26 : decode b_M_axes 26 = .ok (.i2l, 1) := by decide +kernel
theorem d_M_axes_27 : decode b_M_axes 27 = .ok (.invokestatic 88, 3) := by decide +kernel
theorem d_M_axes_30 : decode b_M_axes 30 = .ok (.ifCond .eq 5, 3) := by decide +kernel
theorem d_M_axes_33 : decode b_M_axes 33 = .ok (.iconst 0, 1) := by decide +kernel
theorem d_M_axes_34 : decode b_M_axes 34 = .ok (.ireturn, 1) := by decide +kernel
theorem d_M_axes_35 : decode b_M_axes 35 = .ok (.aload_n 0, 1) := by decide +kernel
theorem d_M_axes_36 : decode b_M_axes 36 = .ok (.getfield 19, 3) := by decide +kernel
theorem d_M_axes_39 : decode b_M_axes 39 = .ok (.iconst 0, 1) := by decide +kernel
theorem d_M_axes_40 : decode b_M_axes 40 = .ok (.iload_n 1, 1) := by decide +kernel
theorem d_M_axes_41 : decode b_M_axes 41 = .ok (.i2l, 1) := by decide +kernel
theorem d_M_axes_42 : decode b_M_axes 42 = .ok (.lastore, 1) := by decide +kernel
theorem d_M_axes_43 : decode b_M_axes 43 = .ok (.aload_n 0, 1) := by decide +kernel
theorem d_M_axes_44 : decode b_M_axes 44 = .ok (.getfield 19, 3) := by decide +kernel
theorem d_M_axes_47 : decode b_M_axes 47 = .ok (.iconst 1, 1) := by decide +kernel
theorem d_M_axes_48 : decode b_M_axes 48 = .ok (.iload_n 2, 1) := by decide +kernel
theorem d_M_axes_49 : decode b_M_axes 49 = .ok (.i2l, 1) := by decide +kernel
theorem d_M_axes_50 : decode b_M_axes 50 = .ok (.lastore, 1) := by decide +kernel
theorem d_M_axes_51 : decode b_M_axes 51 = .ok (.aload_n 0, 1) := by decide +kernel
theorem d_M_axes_52 : decode b_M_axes 52 = .ok (.getfield 19, 3) := by decide +kernel
theorem d_M_axes_55 : decode b_M_axes 55 = .ok (.iconst 2, 1) := by decide +kernel
theorem d_M_axes_56 : decode b_M_axes 56 = .ok (.iload_n 3, 1) := by decide +kernel
theorem d_M_axes_57 : decode b_M_axes 57 = .ok (.i2l, 1) := by decide +kernel
theorem d_M_axes_58 : decode b_M_axes 58 = .ok (.lastore, 1) := by decide +kernel
theorem d_M_axes_59 : decode b_M_axes 59 = .ok (.aload_n 0, 1) := by decide +kernel
theorem d_M_axes_60 : decode b_M_axes 60 = .ok (.getfield 19, 3) := by decide +kernel
theorem d_M_axes_63 : decode b_M_axes 63 = .ok (.iconst 3, 1) := by decide +kernel
theorem d_M_axes_64 : decode b_M_axes 64 = .ok (.iload 4, 2) := by decide +kernel
theorem d_M_axes_66 : decode b_M_axes 66 = .ok (.i2l, 1) := by decide +kernel
theorem d_M_axes_67 : decode b_M_axes 67 = .ok (.lastore, 1) := by decide +kernel
theorem d_M_axes_68 : decode b_M_axes 68 = .ok (.iconst 1, 1) := by decide +kernel
theorem d_M_axes_69 : decode b_M_axes 69 = .ok (.ireturn, 1) := by decide +kernel
theorem d_M_placeOf_0 : decode b_M_placeOf 0 = .ok (.lload_n 0, 1) := by decide +kernel
theorem d_M_placeOf_1 : decode b_M_placeOf 1 = .ok (.ldc2_w 92, 3) := by decide +kernel
theorem d_M_placeOf_4 : decode b_M_placeOf 4 = .ok (.invokestatic 94, 3) := by decide +kernel
theorem d_M_placeOf_7 : decode b_M_placeOf 7 = .ok (.ldc2_w 100, 3) := by decide +kernel
theorem d_M_placeOf_10 : decode b_M_placeOf 10 = .ok (.ladd, 1) := by decide +kernel
theorem d_M_placeOf_11 : decode b_M_placeOf 11 = .ok (.ldc2_w 102, 3) := by decide +kernel
theorem d_M_placeOf_14 : decode b_M_placeOf 14 = .ok (.invokestatic 104, 3) := by decide +kernel
theorem d_M_placeOf_17 : decode b_M_placeOf 17 = .ok (.lreturn, 1) := by decide +kernel
theorem d_M_quarter_0 : decode b_M_quarter 0 = .ok (.aload_n 0, 1) := by decide +kernel
theorem d_M_quarter_1 : decode b_M_quarter 1 = .ok (.getfield 23, 3) := by decide +kernel
theorem d_M_quarter_4 : decode b_M_quarter 4 = .ok (.iconst 0, 1) := by decide +kernel
theorem d_M_quarter_5 : decode b_M_quarter 5 = .ok (.ldc2_w 107, 3) := by decide +kernel
theorem d_M_quarter_8 : decode b_M_quarter 8 = .ok (.lastore, 1) := by decide +kernel
theorem d_M_quarter_9 : decode b_M_quarter 9 = .ok (.aload_n 0, 1) := by decide +kernel
theorem d_M_quarter_10 : decode b_M_quarter 10 = .ok (.getfield 23, 3) := by decide +kernel
theorem d_M_quarter_13 : decode b_M_quarter 13 = .ok (.iconst 1, 1) := by decide +kernel
theorem d_M_quarter_14 : decode b_M_quarter 14 = .ok (.lconst 0, 1) := by decide +kernel
theorem d_M_quarter_15 : decode b_M_quarter 15 = .ok (.lastore, 1) := by decide +kernel
theorem d_M_quarter_16 : decode b_M_quarter 16 = .ok (.aload_n 0, 1) := by decide +kernel
theorem d_M_quarter_17 : decode b_M_quarter 17 = .ok (.getfield 23, 3) := by decide +kernel
theorem d_M_quarter_20 : decode b_M_quarter 20 = .ok (.iconst 2, 1) := by decide +kernel
theorem d_M_quarter_21 : decode b_M_quarter 21 = .ok (.ldc2_w 107, 3) := by decide +kernel
theorem d_M_quarter_24 : decode b_M_quarter 24 = .ok (.lastore, 1) := by decide +kernel
theorem d_M_quarter_25 : decode b_M_quarter 25 = .ok (.aload_n 0, 1) := by decide +kernel
theorem d_M_quarter_26 : decode b_M_quarter 26 = .ok (.getfield 23, 3) := by decide +kernel
theorem d_M_quarter_29 : decode b_M_quarter 29 = .ok (.iconst 3, 1) := by decide +kernel
theorem d_M_quarter_30 : decode b_M_quarter 30 = .ok (.ldc2_w 109, 3) := by decide +kernel
theorem d_M_quarter_33 : decode b_M_quarter 33 = .ok (.lastore, 1) := by decide +kernel
theorem d_M_quarter_34 : decode b_M_quarter 34 = .ok (.aload_n 0, 1) := by decide +kernel
theorem d_M_quarter_35 : decode b_M_quarter 35 = .ok (.getfield 23, 3) := by decide +kernel
theorem d_M_quarter_38 : decode b_M_quarter 38 = .ok (.iconst 4, 1) := by decide +kernel
theorem d_M_quarter_39 : decode b_M_quarter 39 = .ok (.ldc2_w 109, 3) := by decide +kernel
theorem d_M_quarter_42 : decode b_M_quarter 42 = .ok (.lastore, 1) := by decide +kernel
theorem d_M_quarter_43 : decode b_M_quarter 43 = .ok (.aload_n 0, 1) := by decide +kernel
theorem d_M_quarter_44 : decode b_M_quarter 44 = .ok (.getfield 23, 3) := by decide +kernel
theorem d_M_quarter_47 : decode b_M_quarter 47 = .ok (.iconst 5, 1) := by decide +kernel
theorem d_M_quarter_48 : decode b_M_quarter 48 = .ok (.ldc2_w 107, 3) := by decide +kernel
theorem d_M_quarter_51 : decode b_M_quarter 51 = .ok (.lastore, 1) := by decide +kernel
theorem d_M_quarter_52 : decode b_M_quarter 52 = .ok (.aload_n 0, 1) := by decide +kernel
theorem d_M_quarter_53 : decode b_M_quarter 53 = .ok (.getfield 23, 3) := by decide +kernel
theorem d_M_quarter_56 : decode b_M_quarter 56 = .ok (.bipush 6, 2) := by decide +kernel
theorem d_M_quarter_58 : decode b_M_quarter 58 = .ok (.lconst 0, 1) := by decide +kernel
theorem d_M_quarter_59 : decode b_M_quarter 59 = .ok (.lastore, 1) := by decide +kernel
theorem d_M_quarter_60 : decode b_M_quarter 60 = .ok (.aload_n 0, 1) := by decide +kernel
theorem d_M_quarter_61 : decode b_M_quarter 61 = .ok (.getfield 23, 3) := by decide +kernel
theorem d_M_quarter_64 : decode b_M_quarter 64 = .ok (.bipush 7, 2) := by decide +kernel
theorem d_M_quarter_66 : decode b_M_quarter 66 = .ok (.ldc2_w 107, 3) := by decide +kernel
theorem d_M_quarter_69 : decode b_M_quarter 69 = .ok (.lastore, 1) := by decide +kernel
theorem d_M_quarter_70 : decode b_M_quarter 70 = .ok (.iconst 0, 1) := by decide +kernel
theorem d_M_quarter_71 : decode b_M_quarter 71 = .ok (.istore_n 3, 1) := by decide +kernel
theorem d_M_quarter_72 : decode b_M_quarter 72 = .ok (.iload_n 3, 1) := by decide +kernel
theorem d_M_quarter_73 : decode b_M_quarter 73 = .ok (.i2l, 1) := by decide +kernel
theorem d_M_quarter_74 : decode b_M_quarter 74 = .ok (.lload_n 1, 1) := by decide +kernel
theorem d_M_quarter_75 : decode b_M_quarter 75 = .ok (.ldc2_w 111, 3) := by decide +kernel
theorem d_M_quarter_78 : decode b_M_quarter 78 = .ok (.invokestatic 94, 3) := by decide +kernel
theorem d_M_quarter_81 : decode b_M_quarter 81 = .ok (.lcmp, 1) := by decide +kernel
theorem d_M_quarter_82 : decode b_M_quarter 82 = .ok (.ifCond .ge 62, 3) := by decide +kernel
theorem d_M_quarter_85 : decode b_M_quarter 85 = .ok (.iconst 0, 1) := by decide +kernel
theorem d_M_quarter_86 : decode b_M_quarter 86 = .ok (.istore 4, 2) := by decide +kernel
theorem d_M_quarter_88 : decode b_M_quarter 88 = .ok (.iload 4, 2) := by decide +kernel
theorem d_M_quarter_90 : decode b_M_quarter 90 = .ok (.bipush 8, 2) := by decide +kernel
theorem d_M_quarter_92 : decode b_M_quarter 92 = .ok (.if_icmp .ge 46, 3) := by decide +kernel
theorem d_M_quarter_95 : decode b_M_quarter 95 = .ok (.aload_n 0, 1) := by decide +kernel
theorem d_M_quarter_96 : decode b_M_quarter 96 = .ok (.getfield 23, 3) := by decide +kernel
theorem d_M_quarter_99 : decode b_M_quarter 99 = .ok (.iload 4, 2) := by decide +kernel
theorem d_M_quarter_101 : decode b_M_quarter 101 = .ok (.laload, 1) := by decide +kernel
theorem d_M_quarter_102 : decode b_M_quarter 102 = .ok (.lstore 5, 2) := by decide +kernel
theorem d_M_quarter_104 : decode b_M_quarter 104 = .ok (.aload_n 0, 1) := by decide +kernel
theorem d_M_quarter_105 : decode b_M_quarter 105 = .ok (.getfield 23, 3) := by decide +kernel
theorem d_M_quarter_108 : decode b_M_quarter 108 = .ok (.iload 4, 2) := by decide +kernel
theorem d_M_quarter_110 : decode b_M_quarter 110 = .ok (.aload_n 0, 1) := by decide +kernel
theorem d_M_quarter_111 : decode b_M_quarter 111 = .ok (.getfield 23, 3) := by decide +kernel
theorem d_M_quarter_114 : decode b_M_quarter 114 = .ok (.iload 4, 2) := by decide +kernel
theorem d_M_quarter_116 : decode b_M_quarter 116 = .ok (.iconst 1, 1) := by decide +kernel
theorem d_M_quarter_117 : decode b_M_quarter 117 = .ok (.iadd, 1) := by decide +kernel
theorem d_M_quarter_118 : decode b_M_quarter 118 = .ok (.laload, 1) := by decide +kernel
theorem d_M_quarter_119 : decode b_M_quarter 119 = .ok (.lneg, 1) := by decide +kernel
theorem d_M_quarter_120 : decode b_M_quarter 120 = .ok (.lastore, 1) := by decide +kernel
theorem d_M_quarter_121 : decode b_M_quarter 121 = .ok (.aload_n 0, 1) := by decide +kernel
theorem d_M_quarter_122 : decode b_M_quarter 122 = .ok (.getfield 23, 3) := by decide +kernel
theorem d_M_quarter_125 : decode b_M_quarter 125 = .ok (.iload 4, 2) := by decide +kernel
theorem d_M_quarter_127 : decode b_M_quarter 127 = .ok (.iconst 1, 1) := by decide +kernel
theorem d_M_quarter_128 : decode b_M_quarter 128 = .ok (.iadd, 1) := by decide +kernel
theorem d_M_quarter_129 : decode b_M_quarter 129 = .ok (.lload 5, 2) := by decide +kernel
theorem d_M_quarter_131 : decode b_M_quarter 131 = .ok (.lastore, 1) := by decide +kernel
theorem d_M_quarter_132 : decode b_M_quarter 132 = .ok (.iinc 4 2, 3) := by decide +kernel
theorem d_M_quarter_135 : decode b_M_quarter 135 = .ok (.goto (-47), 3) := by decide +kernel
theorem d_M_quarter_138 : decode b_M_quarter 138 = .ok (.iinc 3 1, 3) := by decide +kernel
theorem d_M_quarter_141 : decode b_M_quarter 141 = .ok (.goto (-69), 3) := by decide +kernel
theorem d_M_quarter_144 : decode b_M_quarter 144 = .ok (.return_, 1) := by decide +kernel
theorem d_M_mix_0 : decode b_M_mix 0 = .ok (.lload_n 0, 1) := by decide +kernel
theorem d_M_mix_1 : decode b_M_mix 1 = .ok (.lload_n 2, 1) := by decide +kernel
theorem d_M_mix_2 : decode b_M_mix 2 = .ok (.lload_n 0, 1) := by decide +kernel
theorem d_M_mix_3 : decode b_M_mix 3 = .ok (.lsub, 1) := by decide +kernel
theorem d_M_mix_4 : decode b_M_mix 4 = .ok (.lload 4, 2) := by decide +kernel
theorem d_M_mix_6 : decode b_M_mix 6 = .ok (.lmul, 1) := by decide +kernel
theorem d_M_mix_7 : decode b_M_mix 7 = .ok (.ldc2_w 113, 3) := by decide +kernel
theorem d_M_mix_10 : decode b_M_mix 10 = .ok (.ladd, 1) := by decide +kernel
theorem d_M_mix_11 : decode b_M_mix 11 = .ok (.ldc2_w 107, 3) := by decide +kernel
theorem d_M_mix_14 : decode b_M_mix 14 = .ok (.invokestatic 104, 3) := by decide +kernel
theorem d_M_mix_17 : decode b_M_mix 17 = .ok (.ladd, 1) := by decide +kernel
theorem d_M_mix_18 : decode b_M_mix 18 = .ok (.lreturn, 1) := by decide +kernel
theorem d_M_part_0 : decode b_M_part 0 = .ok (.iconst 0, 1) := by decide +kernel
theorem d_M_part_1 : decode b_M_part 1 = .ok (.istore_n 3, 1) := by decide +kernel
theorem d_M_part_2 : decode b_M_part 2 = .ok (.iload_n 3, 1) := by decide +kernel
theorem d_M_part_3 : decode b_M_part 3 = .ok (.bipush 8, 2) := by decide +kernel
theorem d_M_part_5 : decode b_M_part 5 = .ok (.if_icmp .ge 21, 3) := by decide +kernel
theorem d_M_part_8 : decode b_M_part 8 = .ok (.aload_n 0, 1) := by decide +kernel
theorem d_M_part_9 : decode b_M_part 9 = .ok (.getfield 32, 3) := by decide +kernel
theorem d_M_part_12 : decode b_M_part 12 = .ok (.iload_n 3, 1) := by decide +kernel
theorem d_M_part_13 : decode b_M_part 13 = .ok (.aload_n 0, 1) := by decide +kernel
theorem d_M_part_14 : decode b_M_part 14 = .ok (.getfield 23, 3) := by decide +kernel
theorem d_M_part_17 : decode b_M_part 17 = .ok (.iload_n 3, 1) := by decide +kernel
theorem d_M_part_18 : decode b_M_part 18 = .ok (.laload, 1) := by decide +kernel
theorem d_M_part_19 : decode b_M_part 19 = .ok (.lastore, 1) := by decide +kernel
theorem d_M_part_20 : decode b_M_part 20 = .ok (.iinc 3 1, 3) := by decide +kernel
theorem d_M_part_23 : decode b_M_part 23 = .ok (.goto (-21), 3) := by decide +kernel
theorem d_M_part_26 : decode b_M_part 26 = .ok (.iconst 0, 1) := by decide +kernel
theorem d_M_part_27 : decode b_M_part 27 = .ok (.istore_n 3, 1) := by decide +kernel
theorem d_M_part_28 : decode b_M_part 28 = .ok (.iload_n 3, 1) := by decide +kernel
theorem d_M_part_29 : decode b_M_part 29 = .ok (.iconst 4, 1) := by decide +kernel
theorem d_M_part_30 : decode b_M_part 30 = .ok (.if_icmp .ge 132, 3) := by decide +kernel
theorem d_M_part_33 : decode b_M_part 33 = .ok (.aload_n 0, 1) := by decide +kernel
theorem d_M_part_34 : decode b_M_part 34 = .ok (.getfield 26, 3) := by decide +kernel
theorem d_M_part_37 : decode b_M_part 37 = .ok (.iconst 2, 1) := by decide +kernel
theorem d_M_part_38 : decode b_M_part 38 = .ok (.iload_n 3, 1) := by decide +kernel
theorem d_M_part_39 : decode b_M_part 39 = .ok (.imul, 1) := by decide +kernel
theorem d_M_part_40 : decode b_M_part 40 = .ok (.aload_n 0, 1) := by decide +kernel
theorem d_M_part_41 : decode b_M_part 41 = .ok (.getfield 32, 3) := by decide +kernel
theorem d_M_part_44 : decode b_M_part 44 = .ok (.iconst 0, 1) := by decide +kernel
theorem d_M_part_45 : decode b_M_part 45 = .ok (.laload, 1) := by decide +kernel
theorem d_M_part_46 : decode b_M_part 46 = .ok (.lastore, 1) := by decide +kernel
theorem d_M_part_47 : decode b_M_part 47 = .ok (.aload_n 0, 1) := by decide +kernel
theorem d_M_part_48 : decode b_M_part 48 = .ok (.getfield 26, 3) := by decide +kernel
theorem d_M_part_51 : decode b_M_part 51 = .ok (.iconst 2, 1) := by decide +kernel
theorem d_M_part_52 : decode b_M_part 52 = .ok (.iload_n 3, 1) := by decide +kernel
theorem d_M_part_53 : decode b_M_part 53 = .ok (.imul, 1) := by decide +kernel
theorem d_M_part_54 : decode b_M_part 54 = .ok (.iconst 1, 1) := by decide +kernel
theorem d_M_part_55 : decode b_M_part 55 = .ok (.iadd, 1) := by decide +kernel
theorem d_M_part_56 : decode b_M_part 56 = .ok (.aload_n 0, 1) := by decide +kernel
theorem d_M_part_57 : decode b_M_part 57 = .ok (.getfield 32, 3) := by decide +kernel
theorem d_M_part_60 : decode b_M_part 60 = .ok (.iconst 1, 1) := by decide +kernel
theorem d_M_part_61 : decode b_M_part 61 = .ok (.laload, 1) := by decide +kernel
theorem d_M_part_62 : decode b_M_part 62 = .ok (.lastore, 1) := by decide +kernel
theorem d_M_part_63 : decode b_M_part 63 = .ok (.aload_n 0, 1) := by decide +kernel
theorem d_M_part_64 : decode b_M_part 64 = .ok (.getfield 29, 3) := by decide +kernel
theorem d_M_part_67 : decode b_M_part 67 = .ok (.bipush 6, 2) := by decide +kernel
theorem d_M_part_69 : decode b_M_part 69 = .ok (.iconst 2, 1) := by decide +kernel
theorem d_M_part_70 : decode b_M_part 70 = .ok (.iload_n 3, 1) := by decide +kernel
theorem d_M_part_71 : decode b_M_part 71 = .ok (.imul, 1) := by decide +kernel
theorem d_M_part_72 : decode b_M_part 72 = .ok (.isub, 1) := by decide +kernel
theorem d_M_part_73 : decode b_M_part 73 = .ok (.aload_n 0, 1) := by decide +kernel
theorem d_M_part_74 : decode b_M_part 74 = .ok (.getfield 32, 3) := by decide +kernel
theorem d_M_part_77 : decode b_M_part 77 = .ok (.bipush 6, 2) := by decide +kernel
theorem d_M_part_79 : decode b_M_part 79 = .ok (.iconst 2, 1) := by decide +kernel
theorem d_M_part_80 : decode b_M_part 80 = .ok (.iload_n 3, 1) := by decide +kernel
theorem d_M_part_81 : decode b_M_part 81 = .ok (.imul, 1) := by decide +kernel
theorem d_M_part_82 : decode b_M_part 82 = .ok (.isub, 1) := by decide +kernel
theorem d_M_part_83 : decode b_M_part 83 = .ok (.laload, 1) := by decide +kernel
theorem d_M_part_84 : decode b_M_part 84 = .ok (.lastore, 1) := by decide +kernel
theorem d_M_part_85 : decode b_M_part 85 = .ok (.aload_n 0, 1) := by decide +kernel
theorem d_M_part_86 : decode b_M_part 86 = .ok (.getfield 29, 3) := by decide +kernel
theorem d_M_part_89 : decode b_M_part 89 = .ok (.bipush 7, 2) := by decide +kernel
theorem d_M_part_91 : decode b_M_part 91 = .ok (.iconst 2, 1) := by decide +kernel
theorem d_M_part_92 : decode b_M_part 92 = .ok (.iload_n 3, 1) := by decide +kernel
theorem d_M_part_93 : decode b_M_part 93 = .ok (.imul, 1) := by decide +kernel
theorem d_M_part_94 : decode b_M_part 94 = .ok (.isub, 1) := by decide +kernel
theorem d_M_part_95 : decode b_M_part 95 = .ok (.aload_n 0, 1) := by decide +kernel
theorem d_M_part_96 : decode b_M_part 96 = .ok (.getfield 32, 3) := by decide +kernel
theorem d_M_part_99 : decode b_M_part 99 = .ok (.bipush 7, 2) := by decide +kernel
theorem d_M_part_101 : decode b_M_part 101 = .ok (.iconst 2, 1) := by decide +kernel
theorem d_M_part_102 : decode b_M_part 102 = .ok (.iload_n 3, 1) := by decide +kernel
theorem d_M_part_103 : decode b_M_part 103 = .ok (.imul, 1) := by decide +kernel
theorem d_M_part_104 : decode b_M_part 104 = .ok (.isub, 1) := by decide +kernel
theorem d_M_part_105 : decode b_M_part 105 = .ok (.laload, 1) := by decide +kernel
theorem d_M_part_106 : decode b_M_part 106 = .ok (.lastore, 1) := by decide +kernel
theorem d_M_part_107 : decode b_M_part 107 = .ok (.iconst 0, 1) := by decide +kernel
theorem d_M_part_108 : decode b_M_part 108 = .ok (.istore 4, 2) := by decide +kernel
theorem d_M_part_110 : decode b_M_part 110 = .ok (.iload 4, 2) := by decide +kernel
theorem d_M_part_112 : decode b_M_part 112 = .ok (.iconst 2, 1) := by decide +kernel
theorem d_M_part_113 : decode b_M_part 113 = .ok (.iadd, 1) := by decide +kernel
theorem d_M_part_114 : decode b_M_part 114 = .ok (.bipush 8, 2) := by decide +kernel
theorem d_M_part_116 : decode b_M_part 116 = .ok (.iconst 2, 1) := by decide +kernel
theorem d_M_part_117 : decode b_M_part 117 = .ok (.iload_n 3, 1) := by decide +kernel
theorem d_M_part_118 : decode b_M_part 118 = .ok (.imul, 1) := by decide +kernel
theorem d_M_part_119 : decode b_M_part 119 = .ok (.isub, 1) := by decide +kernel
theorem d_M_part_120 : decode b_M_part 120 = .ok (.if_icmp .ge 36, 3) := by decide +kernel
theorem d_M_part_123 : decode b_M_part 123 = .ok (.aload_n 0, 1) := by decide +kernel
theorem d_M_part_124 : decode b_M_part 124 = .ok (.getfield 32, 3) := by decide +kernel
theorem d_M_part_127 : decode b_M_part 127 = .ok (.iload 4, 2) := by decide +kernel
theorem d_M_part_129 : decode b_M_part 129 = .ok (.aload_n 0, 1) := by decide +kernel
theorem d_M_part_130 : decode b_M_part 130 = .ok (.getfield 32, 3) := by decide +kernel
theorem d_M_part_133 : decode b_M_part 133 = .ok (.iload 4, 2) := by decide +kernel
theorem d_M_part_135 : decode b_M_part 135 = .ok (.laload, 1) := by decide +kernel
theorem d_M_part_136 : decode b_M_part 136 = .ok (.aload_n 0, 1) := by decide +kernel
theorem d_M_part_137 : decode b_M_part 137 = .ok (.getfield 32, 3) := by decide +kernel
theorem d_M_part_140 : decode b_M_part 140 = .ok (.iload 4, 2) := by decide +kernel
theorem d_M_part_142 : decode b_M_part 142 = .ok (.iconst 2, 1) := by decide +kernel
theorem d_M_part_143 : decode b_M_part 143 = .ok (.iadd, 1) := by decide +kernel
theorem d_M_part_144 : decode b_M_part 144 = .ok (.laload, 1) := by decide +kernel
theorem d_M_part_145 : decode b_M_part 145 = .ok (.lload_n 1, 1) := by decide +kernel
theorem d_M_part_146 : decode b_M_part 146 = .ok (.invokestatic 115, 3) := by decide +kernel
theorem d_M_part_149 : decode b_M_part 149 = .ok (.lastore, 1) := by decide +kernel
theorem d_M_part_150 : decode b_M_part 150 = .ok (.iinc 4 1, 3) := by decide +kernel
theorem d_M_part_153 : decode b_M_part 153 = .ok (.goto (-43), 3) := by decide +kernel
theorem d_M_part_156 : decode b_M_part 156 = .ok (.iinc 3 1, 3) := by decide +kernel
theorem d_M_part_159 : decode b_M_part 159 = .ok (.goto (-131), 3) := by decide +kernel
theorem d_M_part_162 : decode b_M_part 162 = .ok (.return_, 1) := by decide +kernel
theorem d_M_cut_0 : decode b_M_cut 0 = .ok (.aload_n 0, 1) := by decide +kernel
theorem d_M_cut_1 : decode b_M_cut 1 = .ok (.lload_n 3, 1) := by decide +kernel
theorem d_M_cut_2 : decode b_M_cut 2 = .ok (.invokevirtual 119, 3) := by decide +kernel
theorem d_M_cut_5 : decode b_M_cut 5 = .ok (.iconst 0, 1) := by decide +kernel
theorem d_M_cut_6 : decode b_M_cut 6 = .ok (.istore 5, 2) := by decide +kernel
theorem d_M_cut_8 : decode b_M_cut 8 = .ok (.iload 5, 2) := by decide +kernel
theorem d_M_cut_10 : decode b_M_cut 10 = .ok (.bipush 8, 2) := by decide +kernel
theorem d_M_cut_12 : decode b_M_cut 12 = .ok (.if_icmp .ge 23, 3) := by decide +kernel
theorem d_M_cut_15 : decode b_M_cut 15 = .ok (.aload_n 0, 1) := by decide +kernel
theorem d_M_cut_16 : decode b_M_cut 16 = .ok (.getfield 23, 3) := by decide +kernel
theorem d_M_cut_19 : decode b_M_cut 19 = .ok (.iload 5, 2) := by decide +kernel
theorem d_M_cut_21 : decode b_M_cut 21 = .ok (.aload_n 0, 1) := by decide +kernel
theorem d_M_cut_22 : decode b_M_cut 22 = .ok (.getfield 26, 3) := by decide +kernel
theorem d_M_cut_25 : decode b_M_cut 25 = .ok (.iload 5, 2) := by decide +kernel
theorem d_M_cut_27 : decode b_M_cut 27 = .ok (.laload, 1) := by decide +kernel
theorem d_M_cut_28 : decode b_M_cut 28 = .ok (.lastore, 1) := by decide +kernel
theorem d_M_cut_29 : decode b_M_cut 29 = .ok (.iinc 5 1, 3) := by decide +kernel
theorem d_M_cut_32 : decode b_M_cut 32 = .ok (.goto (-24), 3) := by decide +kernel
theorem d_M_cut_35 : decode b_M_cut 35 = .ok (.lload_n 1, 1) := by decide +kernel
theorem d_M_cut_36 : decode b_M_cut 36 = .ok (.lconst 0, 1) := by decide +kernel
theorem d_M_cut_37 : decode b_M_cut 37 = .ok (.lcmp, 1) := by decide +kernel
theorem d_M_cut_38 : decode b_M_cut 38 = .ok (.ifCond .ne 4, 3) := by decide +kernel
theorem d_M_cut_41 : decode b_M_cut 41 = .ok (.return_, 1) := by decide +kernel
theorem d_M_cut_42 : decode b_M_cut 42 = .ok (.aload_n 0, 1) := by decide +kernel
theorem d_M_cut_43 : decode b_M_cut 43 = .ok (.ldc2_w 123, 3) := by decide +kernel
theorem d_M_cut_46 : decode b_M_cut 46 = .ok (.lload_n 1, 1) := by decide +kernel
theorem d_M_cut_47 : decode b_M_cut 47 = .ok (.lmul, 1) := by decide +kernel
theorem d_M_cut_48 : decode b_M_cut 48 = .ok (.ldc2_w 107, 3) := by decide +kernel
theorem d_M_cut_51 : decode b_M_cut 51 = .ok (.lmul, 1) := by decide +kernel
theorem d_M_cut_52 : decode b_M_cut 52 = .ok (.lload_n 3, 1) := by decide +kernel
theorem d_M_cut_53 : decode b_M_cut 53 = .ok (.ladd, 1) := by decide +kernel
theorem d_M_cut_54 : decode b_M_cut 54 = .ok (.ldc2_w 123, 3) := by decide +kernel
theorem d_M_cut_57 : decode b_M_cut 57 = .ok (.lload_n 3, 1) := by decide +kernel
theorem d_M_cut_58 : decode b_M_cut 58 = .ok (.lmul, 1) := by decide +kernel
theorem d_M_cut_59 : decode b_M_cut 59 = .ok (.invokestatic 104, 3) := by decide +kernel
theorem d_M_cut_62 : decode b_M_cut 62 = .ok (.invokevirtual 119, 3) := by decide +kernel
theorem d_M_cut_65 : decode b_M_cut 65 = .ok (.iconst 0, 1) := by decide +kernel
theorem d_M_cut_66 : decode b_M_cut 66 = .ok (.istore 5, 2) := by decide +kernel
theorem d_M_cut_68 : decode b_M_cut 68 = .ok (.iload 5, 2) := by decide +kernel
theorem d_M_cut_70 : decode b_M_cut 70 = .ok (.bipush 8, 2) := by decide +kernel
theorem d_M_cut_72 : decode b_M_cut 72 = .ok (.if_icmp .ge 23, 3) := by decide +kernel
theorem d_M_cut_75 : decode b_M_cut 75 = .ok (.aload_n 0, 1) := by decide +kernel
theorem d_M_cut_76 : decode b_M_cut 76 = .ok (.getfield 23, 3) := by decide +kernel
theorem d_M_cut_79 : decode b_M_cut 79 = .ok (.iload 5, 2) := by decide +kernel
theorem d_M_cut_81 : decode b_M_cut 81 = .ok (.aload_n 0, 1) := by decide +kernel
theorem d_M_cut_82 : decode b_M_cut 82 = .ok (.getfield 29, 3) := by decide +kernel
theorem d_M_cut_85 : decode b_M_cut 85 = .ok (.iload 5, 2) := by decide +kernel
theorem d_M_cut_87 : decode b_M_cut 87 = .ok (.laload, 1) := by decide +kernel
theorem d_M_cut_88 : decode b_M_cut 88 = .ok (.lastore, 1) := by decide +kernel
theorem d_M_cut_89 : decode b_M_cut 89 = .ok (.iinc 5 1, 3) := by decide +kernel
theorem d_M_cut_92 : decode b_M_cut 92 = .ok (.goto (-24), 3) := by decide +kernel
theorem d_M_cut_95 : decode b_M_cut 95 = .ok (.return_, 1) := by decide +kernel
theorem d_M_around_0 : decode b_M_around 0 = .ok (.lload_n 1, 1) := by decide +kernel
theorem d_M_around_1 : decode b_M_around 1 = .ok (.lload_n 3, 1) := by decide +kernel
theorem d_M_around_2 : decode b_M_around 2 = .ok (.aload_n 0, 1) := by decide +kernel
theorem d_M_around_3 : decode b_M_around 3 = .ok (.getfield 19, 3) := by decide +kernel
theorem d_M_around_6 : decode b_M_around 6 = .ok (.iload 7, 2) := by decide +kernel
theorem d_M_around_8 : decode b_M_around 8 = .ok (.laload, 1) := by decide +kernel
theorem d_M_around_9 : decode b_M_around 9 = .ok (.lmul, 1) := by decide +kernel
theorem d_M_around_10 : decode b_M_around 10 = .ok (.lload 5, 2) := by decide +kernel
theorem d_M_around_12 : decode b_M_around 12 = .ok (.aload_n 0, 1) := by decide +kernel
theorem d_M_around_13 : decode b_M_around 13 = .ok (.getfield 19, 3) := by decide +kernel
theorem d_M_around_16 : decode b_M_around 16 = .ok (.iconst 2, 1) := by decide +kernel
theorem d_M_around_17 : decode b_M_around 17 = .ok (.iload 7, 2) := by decide +kernel
theorem d_M_around_19 : decode b_M_around 19 = .ok (.iadd, 1) := by decide +kernel
theorem d_M_around_20 : decode b_M_around 20 = .ok (.laload, 1) := by decide +kernel
theorem d_M_around_21 : decode b_M_around 21 = .ok (.lmul, 1) := by decide +kernel
theorem d_M_around_22 : decode b_M_around 22 = .ok (.ladd, 1) := by decide +kernel
theorem d_M_around_23 : decode b_M_around 23 = .ok (.ldc2_w 113, 3) := by decide +kernel
theorem d_M_around_26 : decode b_M_around 26 = .ok (.ladd, 1) := by decide +kernel
theorem d_M_around_27 : decode b_M_around 27 = .ok (.ldc2_w 107, 3) := by decide +kernel
theorem d_M_around_30 : decode b_M_around 30 = .ok (.invokestatic 104, 3) := by decide +kernel
theorem d_M_around_33 : decode b_M_around 33 = .ok (.ladd, 1) := by decide +kernel
theorem d_M_around_34 : decode b_M_around 34 = .ok (.lreturn, 1) := by decide +kernel
theorem d_M_beginArc_0 : decode b_M_beginArc 0 = .ok (.aload_n 0, 1) := by decide +kernel
theorem d_M_beginArc_1 : decode b_M_beginArc 1 = .ok (.lload_n 1, 1) := by decide +kernel
theorem d_M_beginArc_2 : decode b_M_beginArc 2 = .ok (.lload 5, 2) := by decide +kernel
theorem d_M_beginArc_4 : decode b_M_beginArc 4 = .ok (.lload 7, 2) := by decide +kernel
theorem d_M_beginArc_6 : decode b_M_beginArc 6 = .ok (.iconst 0, 1) := by decide +kernel
theorem d_M_beginArc_7 : decode b_M_beginArc 7 = .ok (.invokevirtual 125, 3) := by decide +kernel
theorem d_M_beginArc_10 : decode b_M_beginArc 10 = .ok (.lstore 9, 2) := by decide +kernel
theorem d_M_beginArc_12 : decode b_M_beginArc 12 = .ok (.aload_n 0, 1) := by decide +kernel
theorem d_M_beginArc_13 : decode b_M_beginArc 13 = .ok (.lload_n 3, 1) := by decide +kernel
theorem d_M_beginArc_14 : decode b_M_beginArc 14 = .ok (.lload 5, 2) := by decide +kernel
theorem d_M_beginArc_16 : decode b_M_beginArc 16 = .ok (.lload 7, 2) := by decide +kernel
theorem d_M_beginArc_18 : decode b_M_beginArc 18 = .ok (.iconst 1, 1) := by decide +kernel
theorem d_M_beginArc_19 : decode b_M_beginArc 19 = .ok (.invokevirtual 125, 3) := by decide +kernel
theorem d_M_beginArc_22 : decode b_M_beginArc 22 = .ok (.lstore 11, 2) := by decide +kernel
theorem d_M_beginArc_24 : decode b_M_beginArc 24 = .ok (.aload_n 0, 1) := by decide +kernel
theorem d_M_beginArc_25 : decode b_M_beginArc 25 = .ok (.getfield 16, 3) := by decide +kernel
theorem d_M_beginArc_28 : decode b_M_beginArc 28 = .ok (.getfield 42, 3) := by decide +kernel
theorem d_M_beginArc_31 : decode b_M_beginArc 31 = .ok (.ifCond .ne 15, 3) := by decide +kernel
theorem d_M_beginArc_34 : decode b_M_beginArc 34 = .ok (.aload_n 0, 1) := by decide +kernel
theorem d_M_beginArc_35 : decode b_M_beginArc 35 = .ok (.getfield 16, 3) := by decide +kernel
theorem d_M_beginArc_38 : decode b_M_beginArc 38 = .ok (.lload 9, 2) := by decide +kernel
theorem d_M_beginArc_40 : decode b_M_beginArc 40 = .ok (.lload 11, 2) := by decide +kernel
theorem d_M_beginArc_42 : decode b_M_beginArc 42 = .ok (.invokevirtual 54, 3) := by decide +kernel
theorem d_M_beginArc_45 : decode b_M_beginArc 45 = .ok (.return_, 1) := by decide +kernel
theorem d_M_beginArc_46 : decode b_M_beginArc 46 = .ok (.aload_n 0, 1) := by decide +kernel
theorem d_M_beginArc_47 : decode b_M_beginArc 47 = .ok (.getfield 16, 3) := by decide +kernel
theorem d_M_beginArc_50 : decode b_M_beginArc 50 = .ok (.invokevirtual 66, 3) := by decide +kernel
theorem d_M_beginArc_53 : decode b_M_beginArc 53 = .ok (.aload_n 0, 1) := by decide +kernel
theorem d_M_beginArc_54 : decode b_M_beginArc 54 = .ok (.getfield 16, 3) := by decide +kernel
theorem d_M_beginArc_57 : decode b_M_beginArc 57 = .ok (.iconst 1, 1) := by decide +kernel
theorem d_M_beginArc_58 : decode b_M_beginArc 58 = .ok (.lload 9, 2) := by decide +kernel
theorem d_M_beginArc_60 : decode b_M_beginArc 60 = .ok (.lload 11, 2) := by decide +kernel
theorem d_M_beginArc_62 : decode b_M_beginArc 62 = .ok (.invokevirtual 69, 3) := by decide +kernel
theorem d_M_beginArc_65 : decode b_M_beginArc 65 = .ok (.return_, 1) := by decide +kernel
theorem d_M_addCurve_0 : decode b_M_addCurve 0 = .ok (.iload 5, 2) := by decide +kernel
theorem d_M_addCurve_2 : decode b_M_addCurve 2 = .ok (.ifCond .eq 7, 3) := by decide +kernel
theorem d_M_addCurve_5 : decode b_M_addCurve 5 = .ok (.iconst 4, 1) := by decide +kernel
theorem d_M_addCurve_6 : decode b_M_addCurve 6 = .ok (.goto 4, 3) := by decide +kernel
theorem d_M_addCurve_9 : decode b_M_addCurve 9 = .ok (.iconst 2, 1) := by decide +kernel
theorem d_M_addCurve_10 : decode b_M_addCurve 10 = .ok (.istore 6, 2) := by decide +kernel
theorem d_M_addCurve_12 : decode b_M_addCurve 12 = .ok (.iload 5, 2) := by decide +kernel
theorem d_M_addCurve_14 : decode b_M_addCurve 14 = .ok (.ifCond .eq 7, 3) := by decide +kernel
theorem d_M_addCurve_17 : decode b_M_addCurve 17 = .ok (.iconst 2, 1) := by decide +kernel
theorem d_M_addCurve_18 : decode b_M_addCurve 18 = .ok (.goto 4, 3) := by decide +kernel
theorem d_M_addCurve_21 : decode b_M_addCurve 21 = .ok (.iconst 4, 1) := by decide +kernel
theorem d_M_addCurve_22 : decode b_M_addCurve 22 = .ok (.istore 7, 2) := by decide +kernel
theorem d_M_addCurve_24 : decode b_M_addCurve 24 = .ok (.iload 5, 2) := by decide +kernel
theorem d_M_addCurve_26 : decode b_M_addCurve 26 = .ok (.ifCond .eq 7, 3) := by decide +kernel
theorem d_M_addCurve_29 : decode b_M_addCurve 29 = .ok (.iconst 0, 1) := by decide +kernel
theorem d_M_addCurve_30 : decode b_M_addCurve 30 = .ok (.goto 5, 3) := by decide +kernel
theorem d_M_addCurve_33 : decode b_M_addCurve 33 = .ok (.bipush 6, 2) := by decide +kernel
theorem d_M_addCurve_35 : decode b_M_addCurve 35 = .ok (.istore 8, 2) := by decide +kernel
theorem d_M_addCurve_37 : decode b_M_addCurve 37 = .ok (.aload_n 0, 1) := by decide +kernel
theorem d_M_addCurve_38 : decode b_M_addCurve 38 = .ok (.getfield 16, 3) := by decide +kernel
theorem d_M_addCurve_41 : decode b_M_addCurve 41 = .ok (.iconst 2, 1) := by decide +kernel
theorem d_M_addCurve_42 : decode b_M_addCurve 42 = .ok (.aload_n 0, 1) := by decide +kernel
theorem d_M_addCurve_43 : decode b_M_addCurve 43 = .ok (.lload_n 1, 1) := by decide +kernel
theorem d_M_addCurve_44 : decode b_M_addCurve 44 = .ok (.aload_n 0, 1) := by decide +kernel
theorem d_M_addCurve_45 : decode b_M_addCurve 45 = .ok (.getfield 23, 3) := by decide +kernel
theorem d_M_addCurve_48 : decode b_M_addCurve 48 = .ok (.iload 8, 2) := by decide +kernel
theorem d_M_addCurve_50 : decode b_M_addCurve 50 = .ok (.laload, 1) := by decide +kernel
theorem d_M_addCurve_51 : decode b_M_addCurve 51 = .ok (.aload_n 0, 1) := by decide +kernel
theorem d_M_addCurve_52 : decode b_M_addCurve 52 = .ok (.getfield 23, 3) := by decide +kernel
theorem d_M_addCurve_55 : decode b_M_addCurve 55 = .ok (.iload 8, 2) := by decide +kernel
theorem d_M_addCurve_57 : decode b_M_addCurve 57 = .ok (.iconst 1, 1) := by decide +kernel
theorem d_M_addCurve_58 : decode b_M_addCurve 58 = .ok (.iadd, 1) := by decide +kernel
theorem d_M_addCurve_59 : decode b_M_addCurve 59 = .ok (.laload, 1) := by decide +kernel
theorem d_M_addCurve_60 : decode b_M_addCurve 60 = .ok (.iconst 0, 1) := by decide +kernel
theorem d_M_addCurve_61 : decode b_M_addCurve 61 = .ok (.invokevirtual 125, 3) := by decide +kernel
theorem d_M_addCurve_64 : decode b_M_addCurve 64 = .ok (.aload_n 0, 1) := by decide +kernel
theorem d_M_addCurve_65 : decode b_M_addCurve 65 = .ok (.lload_n 3, 1) := by decide +kernel
theorem d_M_addCurve_66 : decode b_M_addCurve 66 = .ok (.aload_n 0, 1) := by decide +kernel
theorem d_M_addCurve_67 : decode b_M_addCurve 67 = .ok (.getfield 23, 3) := by decide +kernel
theorem d_M_addCurve_70 : decode b_M_addCurve 70 = .ok (.iload 8, 2) := by decide +kernel
theorem d_M_addCurve_72 : decode b_M_addCurve 72 = .ok (.laload, 1) := by decide +kernel
theorem d_M_addCurve_73 : decode b_M_addCurve 73 = .ok (.aload_n 0, 1) := by decide +kernel
theorem d_M_addCurve_74 : decode b_M_addCurve 74 = .ok (.getfield 23, 3) := by decide +kernel
theorem d_M_addCurve_77 : decode b_M_addCurve 77 = .ok (.iload 8, 2) := by decide +kernel
theorem d_M_addCurve_79 : decode b_M_addCurve 79 = .ok (.iconst 1, 1) := by decide +kernel
theorem d_M_addCurve_80 : decode b_M_addCurve 80 = .ok (.iadd, 1) := by decide +kernel
theorem d_M_addCurve_81 : decode b_M_addCurve 81 = .ok (.laload, 1) := by decide +kernel
theorem d_M_addCurve_82 : decode b_M_addCurve 82 = .ok (.iconst 1, 1) := by decide +kernel
theorem d_M_addCurve_83 : decode b_M_addCurve 83 = .ok (.invokevirtual 125, 3) := by decide +kernel
theorem d_M_addCurve_86 : decode b_M_addCurve 86 = .ok (.aload_n 0, 1) := by decide +kernel
theorem d_M_addCurve_87 : decode b_M_addCurve 87 = .ok (.lload_n 1, 1) := by decide +kernel
theorem d_M_addCurve_88 : decode b_M_addCurve 88 = .ok (.aload_n 0, 1) := by decide +kernel
theorem d_M_addCurve_89 : decode b_M_addCurve 89 = .ok (.getfield 23, 3) := by decide +kernel
theorem d_M_addCurve_92 : decode b_M_addCurve 92 = .ok (.iload 6, 2) := by decide +kernel
theorem d_M_addCurve_94 : decode b_M_addCurve 94 = .ok (.laload, 1) := by decide +kernel
theorem d_M_addCurve_95 : decode b_M_addCurve 95 = .ok (.aload_n 0, 1) := by decide +kernel
theorem d_M_addCurve_96 : decode b_M_addCurve 96 = .ok (.getfield 23, 3) := by decide +kernel
theorem d_M_addCurve_99 : decode b_M_addCurve 99 = .ok (.iload 6, 2) := by decide +kernel
theorem d_M_addCurve_101 : decode b_M_addCurve 101 = .ok (.iconst 1, 1) := by decide +kernel
theorem d_M_addCurve_102 : decode b_M_addCurve 102 = .ok (.iadd, 1) := by decide +kernel
theorem d_M_addCurve_103 : decode b_M_addCurve 103 = .ok (.laload, 1) := by decide +kernel
theorem d_M_addCurve_104 : decode b_M_addCurve 104 = .ok (.iconst 0, 1) := by decide +kernel
theorem d_M_addCurve_105 : decode b_M_addCurve 105 = .ok (.invokevirtual 125, 3) := by decide +kernel
theorem d_M_addCurve_108 : decode b_M_addCurve 108 = .ok (.aload_n 0, 1) := by decide +kernel
theorem d_M_addCurve_109 : decode b_M_addCurve 109 = .ok (.lload_n 3, 1) := by decide +kernel
theorem d_M_addCurve_110 : decode b_M_addCurve 110 = .ok (.aload_n 0, 1) := by decide +kernel
theorem d_M_addCurve_111 : decode b_M_addCurve 111 = .ok (.getfield 23, 3) := by decide +kernel
theorem d_M_addCurve_114 : decode b_M_addCurve 114 = .ok (.iload 6, 2) := by decide +kernel
theorem d_M_addCurve_116 : decode b_M_addCurve 116 = .ok (.laload, 1) := by decide +kernel
theorem d_M_addCurve_117 : decode b_M_addCurve 117 = .ok (.aload_n 0, 1) := by decide +kernel
theorem d_M_addCurve_118 : decode b_M_addCurve 118 = .ok (.getfield 23, 3) := by decide +kernel
theorem d_M_addCurve_121 : decode b_M_addCurve 121 = .ok (.iload 6, 2) := by decide +kernel
theorem d_M_addCurve_123 : decode b_M_addCurve 123 = .ok (.iconst 1, 1) := by decide +kernel
theorem d_M_addCurve_124 : decode b_M_addCurve 124 = .ok (.iadd, 1) := by decide +kernel
theorem d_M_addCurve_125 : decode b_M_addCurve 125 = .ok (.laload, 1) := by decide +kernel
theorem d_M_addCurve_126 : decode b_M_addCurve 126 = .ok (.iconst 1, 1) := by decide +kernel
theorem d_M_addCurve_127 : decode b_M_addCurve 127 = .ok (.invokevirtual 125, 3) := by decide +kernel
theorem d_M_addCurve_130 : decode b_M_addCurve 130 = .ok (.aload_n 0, 1) := by decide +kernel
theorem d_M_addCurve_131 : decode b_M_addCurve 131 = .ok (.lload_n 1, 1) := by decide +kernel
theorem d_M_addCurve_132 : decode b_M_addCurve 132 = .ok (.aload_n 0, 1) := by decide +kernel
theorem d_M_addCurve_133 : decode b_M_addCurve 133 = .ok (.getfield 23, 3) := by decide +kernel
theorem d_M_addCurve_136 : decode b_M_addCurve 136 = .ok (.iload 7, 2) := by decide +kernel
theorem d_M_addCurve_138 : decode b_M_addCurve 138 = .ok (.laload, 1) := by decide +kernel
theorem d_M_addCurve_139 : decode b_M_addCurve 139 = .ok (.aload_n 0, 1) := by decide +kernel
theorem d_M_addCurve_140 : decode b_M_addCurve 140 = .ok (.getfield 23, 3) := by decide +kernel
theorem d_M_addCurve_143 : decode b_M_addCurve 143 = .ok (.iload 7, 2) := by decide +kernel
theorem d_M_addCurve_145 : decode b_M_addCurve 145 = .ok (.iconst 1, 1) := by decide +kernel
theorem d_M_addCurve_146 : decode b_M_addCurve 146 = .ok (.iadd, 1) := by decide +kernel
theorem d_M_addCurve_147 : decode b_M_addCurve 147 = .ok (.laload, 1) := by decide +kernel
theorem d_M_addCurve_148 : decode b_M_addCurve 148 = .ok (.iconst 0, 1) := by decide +kernel
theorem d_M_addCurve_149 : decode b_M_addCurve 149 = .ok (.invokevirtual 125, 3) := by decide +kernel
theorem d_M_addCurve_152 : decode b_M_addCurve 152 = .ok (.aload_n 0, 1) := by decide +kernel
theorem d_M_addCurve_153 : decode b_M_addCurve 153 = .ok (.lload_n 3, 1) := by decide +kernel
theorem d_M_addCurve_154 : decode b_M_addCurve 154 = .ok (.aload_n 0, 1) := by decide +kernel
theorem d_M_addCurve_155 : decode b_M_addCurve 155 = .ok (.getfield 23, 3) := by decide +kernel
theorem d_M_addCurve_158 : decode b_M_addCurve 158 = .ok (.iload 7, 2) := by decide +kernel
theorem d_M_addCurve_160 : decode b_M_addCurve 160 = .ok (.laload, 1) := by decide +kernel
theorem d_M_addCurve_161 : decode b_M_addCurve 161 = .ok (.aload_n 0, 1) := by decide +kernel
theorem d_M_addCurve_162 : decode b_M_addCurve 162 = .ok (.getfield 23, 3) := by decide +kernel
theorem d_M_addCurve_165 : decode b_M_addCurve 165 = .ok (.iload 7, 2) := by decide +kernel
theorem d_M_addCurve_167 : decode b_M_addCurve 167 = .ok (.iconst 1, 1) := by decide +kernel
theorem d_M_addCurve_168 : decode b_M_addCurve 168 = .ok (.iadd, 1) := by decide +kernel
theorem d_M_addCurve_169 : decode b_M_addCurve 169 = .ok (.laload, 1) := by decide +kernel
theorem d_M_addCurve_170 : decode b_M_addCurve 170 = .ok (.iconst 1, 1) := by decide +kernel
theorem d_M_addCurve_171 : decode b_M_addCurve 171 = .ok (.invokevirtual 125, 3) := by decide +kernel
theorem d_M_addCurve_174 : decode b_M_addCurve 174 = .ok (.invokevirtual 73, 3) := by decide +kernel
theorem d_M_addCurve_177 : decode b_M_addCurve 177 = .ok (.return_, 1) := by decide +kernel
end
section
theorem d_M_from_0 : decode b_M_from 0 = .ok (.lload_n 0, 1) := by decide +kernel
theorem d_M_from_1 : decode b_M_from 1 = .ok (.lload_n 2, 1) := by decide +kernel
theorem d_M_from_2 : decode b_M_from 2 = .ok (.ldc2_w 92, 3) := by decide +kernel
theorem d_M_from_5 : decode b_M_from 5 = .ok (.invokestatic 104, 3) := by decide +kernel
theorem d_M_from_8 : decode b_M_from 8 = .ok (.lcmp, 1) := by decide +kernel
theorem d_M_from_9 : decode b_M_from 9 = .ok (.ifCond .ne 10, 3) := by decide +kernel
theorem d_M_from_12 : decode b_M_from 12 = .ok (.lload_n 2, 1) := by decide +kernel
theorem d_M_from_13 : decode b_M_from 13 = .ok (.invokestatic 129, 3) := by decide +kernel
theorem d_M_from_16 : decode b_M_from 16 = .ok (.goto 4, 3) := by decide +kernel
theorem d_M_from_19 : decode b_M_from 19 = .ok (.lconst 0, 1) := by decide +kernel
theorem d_M_from_20 : decode b_M_from 20 = .ok (.lreturn, 1) := by decide +kernel
theorem d_M_to_0 : decode b_M_to 0 = .ok (.lload_n 0, 1) := by decide +kernel
theorem d_M_to_1 : decode b_M_to 1 = .ok (.lload_n 2, 1) := by decide +kernel
theorem d_M_to_2 : decode b_M_to 2 = .ok (.ldc2_w 92, 3) := by decide +kernel
theorem d_M_to_5 : decode b_M_to 5 = .ok (.invokestatic 104, 3) := by decide +kernel
theorem d_M_to_8 : decode b_M_to 8 = .ok (.lcmp, 1) := by decide +kernel
theorem d_M_to_9 : decode b_M_to 9 = .ok (.ifCond .ne 10, 3) := by decide +kernel
theorem d_M_to_12 : decode b_M_to 12 = .ok (.lload_n 2, 1) := by decide +kernel
theorem d_M_to_13 : decode b_M_to 13 = .ok (.invokestatic 129, 3) := by decide +kernel
theorem d_M_to_16 : decode b_M_to 16 = .ok (.goto 6, 3) := by decide +kernel
theorem d_M_to_19 : decode b_M_to 19 = .ok (.ldc2_w 107, 3) := by decide +kernel
theorem d_M_to_22 : decode b_M_to 22 = .ok (.lreturn, 1) := by decide +kernel
theorem d_M_addArc_0 : decode b_M_addArc 0 = .ok (.lload 5, 2) := by decide +kernel
theorem d_M_addArc_2 : decode b_M_addArc 2 = .ok (.ldc2_w 92, 3) := by decide +kernel
theorem d_M_addArc_5 : decode b_M_addArc 5 = .ok (.invokestatic 104, 3) := by decide +kernel
theorem d_M_addArc_8 : decode b_M_addArc 8 = .ok (.lstore 10, 2) := by decide +kernel
theorem d_M_addArc_10 : decode b_M_addArc 10 = .ok (.lload 7, 2) := by decide +kernel
theorem d_M_addArc_12 : decode b_M_addArc 12 = .ok (.ldc2_w 92, 3) := by decide +kernel
theorem d_M_addArc_15 : decode b_M_addArc 15 = .ok (.invokestatic 104, 3) := by decide +kernel
theorem d_M_addArc_18 : decode b_M_addArc 18 = .ok (.lstore 12, 2) := by decide +kernel
theorem d_M_addArc_20 : decode b_M_addArc 20 = .ok (.iconst 0, 1) := by decide +kernel
theorem d_M_addArc_21 : decode b_M_addArc 21 = .ok (.istore 14, 2) := by decide +kernel
theorem d_M_addArc_23 : decode b_M_addArc 23 = .ok (.lload 10, 2) := by decide +kernel
theorem d_M_addArc_25 : decode b_M_addArc 25 = .ok (.lstore 15, 2) := by decide +kernel
theorem d_M_addArc_27 : decode b_M_addArc 27 = .ok (.lload 15, 2) := by decide +kernel
theorem d_M_addArc_29 : decode b_M_addArc 29 = .ok (.lload 12, 2) := by decide +kernel
theorem d_M_addArc_31 : decode b_M_addArc 31 = .ok (.lcmp, 1) := by decide +kernel
theorem d_M_addArc_32 : decode b_M_addArc 32 = .ok (.ifCond .gt 131, 3) := by decide +kernel
theorem d_M_addArc_35 : decode b_M_addArc 35 = .ok (.iload 9, 2) := by decide +kernel
theorem d_M_addArc_37 : decode b_M_addArc 37 = .ok (.ifCond .eq 14, 3) := by decide +kernel
theorem d_M_addArc_40 : decode b_M_addArc 40 = .ok (.lload 10, 2) := by decide +kernel
theorem d_M_addArc_42 : decode b_M_addArc 42 = .ok (.lload 12, 2) := by decide +kernel
theorem d_M_addArc_44 : decode b_M_addArc 44 = .ok (.ladd, 1) := by decide +kernel
theorem d_M_addArc_45 : decode b_M_addArc 45 = .ok (.lload 15, 2) := by decide +kernel
theorem d_M_addArc_47 : decode b_M_addArc 47 = .ok (.lsub, 1) := by decide +kernel
theorem d_M_addArc_48 : decode b_M_addArc 48 = .ok (.goto 5, 3) := by decide +kernel
theorem d_M_addArc_51 : decode b_M_addArc 51 = .ok (.lload 15, 2) := by decide +kernel
theorem d_M_addArc_53 : decode b_M_addArc 53 = .ok (.lstore 17, 2) := by decide +kernel
theorem d_M_addArc_55 : decode b_M_addArc 55 = .ok (.lload 17, 2) := by decide +kernel
theorem d_M_addArc_57 : decode b_M_addArc 57 = .ok (.lload 5, 2) := by decide +kernel
theorem d_M_addArc_59 : decode b_M_addArc 59 = .ok (.invokestatic 133, 3) := by decide +kernel
theorem d_M_addArc_62 : decode b_M_addArc 62 = .ok (.lload 17, 2) := by decide +kernel
theorem d_M_addArc_64 : decode b_M_addArc 64 = .ok (.lload 7, 2) := by decide +kernel
theorem d_M_addArc_66 : decode b_M_addArc 66 = .ok (.invokestatic 136, 3) := by decide +kernel
theorem d_M_addArc_69 : decode b_M_addArc 69 = .ok (.lcmp, 1) := by decide +kernel
theorem d_M_addArc_70 : decode b_M_addArc 70 = .ok (.ifCond .ne 6, 3) := by decide +kernel
theorem d_M_addArc_73 : decode b_M_addArc 73 = .ok (.goto 81, 3) := by decide +kernel
theorem d_M_addArc_76 : decode b_M_addArc 76 = .ok (.aload_n 0, 1) := by decide +kernel
theorem d_M_addArc_77 : decode b_M_addArc 77 = .ok (.lload 17, 2) := by decide +kernel
theorem d_M_addArc_79 : decode b_M_addArc 79 = .ok (.invokevirtual 139, 3) := by decide +kernel
theorem d_M_addArc_82 : decode b_M_addArc 82 = .ok (.aload_n 0, 1) := by decide +kernel
theorem d_M_addArc_83 : decode b_M_addArc 83 = .ok (.lload 17, 2) := by decide +kernel
theorem d_M_addArc_85 : decode b_M_addArc 85 = .ok (.lload 5, 2) := by decide +kernel
theorem d_M_addArc_87 : decode b_M_addArc 87 = .ok (.invokestatic 133, 3) := by decide +kernel
theorem d_M_addArc_90 : decode b_M_addArc 90 = .ok (.lload 17, 2) := by decide +kernel
theorem d_M_addArc_92 : decode b_M_addArc 92 = .ok (.lload 7, 2) := by decide +kernel
theorem d_M_addArc_94 : decode b_M_addArc 94 = .ok (.invokestatic 136, 3) := by decide +kernel
theorem d_M_addArc_97 : decode b_M_addArc 97 = .ok (.invokevirtual 142, 3) := by decide +kernel
theorem d_M_addArc_100 : decode b_M_addArc 100 = .ok (.iload 14, 2) := by decide +kernel
theorem d_M_addArc_102 : decode b_M_addArc 102 = .ok (.ifCond .ne 41, 3) := by decide +kernel
theorem d_M_addArc_105 : decode b_M_addArc 105 = .ok (.aload_n 0, 1) := by decide +kernel
theorem d_M_addArc_106 : decode b_M_addArc 106 = .ok (.lload_n 1, 1) := by decide +kernel
theorem d_M_addArc_107 : decode b_M_addArc 107 = .ok (.lload_n 3, 1) := by decide +kernel
theorem d_M_addArc_108 : decode b_M_addArc 108 = .ok (.aload_n 0, 1) := by decide +kernel
theorem d_M_addArc_109 : decode b_M_addArc 109 = .ok (.getfield 23, 3) := by decide +kernel
theorem d_M_addArc_112 : decode b_M_addArc 112 = .ok (.iload 9, 2) := by decide +kernel
theorem d_M_addArc_114 : decode b_M_addArc 114 = .ok (.ifCond .eq 8, 3) := by decide +kernel
theorem d_M_addArc_117 : decode b_M_addArc 117 = .ok (.bipush 6, 2) := by decide +kernel
theorem d_M_addArc_119 : decode b_M_addArc 119 = .ok (.goto 4, 3) := by decide +kernel
theorem d_M_addArc_122 : decode b_M_addArc 122 = .ok (.iconst 0, 1) := by decide +kernel
theorem d_M_addArc_123 : decode b_M_addArc 123 = .ok (.laload, 1) := by decide +kernel
theorem d_M_addArc_124 : decode b_M_addArc 124 = .ok (.aload_n 0, 1) := by decide +kernel
theorem d_M_addArc_125 : decode b_M_addArc 125 = .ok (.getfield 23, 3) := by decide +kernel
theorem d_M_addArc_128 : decode b_M_addArc 128 = .ok (.iload 9, 2) := by decide +kernel
theorem d_M_addArc_130 : decode b_M_addArc 130 = .ok (.ifCond .eq 8, 3) := by decide +kernel
theorem d_M_addArc_133 : decode b_M_addArc 133 = .ok (.bipush 7, 2) := by decide +kernel
theorem d_M_addArc_135 : decode b_M_addArc 135 = .ok (.goto 4, 3) := by decide +kernel
theorem d_M_addArc_138 : decode b_M_addArc 138 = .ok (.iconst 1, 1) := by decide +kernel
theorem d_M_addArc_139 : decode b_M_addArc 139 = .ok (.laload, 1) := by decide +kernel
theorem d_M_addArc_140 : decode b_M_addArc 140 = .ok (.invokevirtual 145, 3) := by decide +kernel
theorem d_M_addArc_143 : decode b_M_addArc 143 = .ok (.iconst 1, 1) := by decide +kernel
theorem d_M_addArc_144 : decode b_M_addArc 144 = .ok (.istore 14, 2) := by decide +kernel
theorem d_M_addArc_146 : decode b_M_addArc 146 = .ok (.aload_n 0, 1) := by decide +kernel
theorem d_M_addArc_147 : decode b_M_addArc 147 = .ok (.lload_n 1, 1) := by decide +kernel
theorem d_M_addArc_148 : decode b_M_addArc 148 = .ok (.lload_n 3, 1) := by decide +kernel
theorem d_M_addArc_149 : decode b_M_addArc 149 = .ok (.iload 9, 2) := by decide +kernel
theorem d_M_addArc_151 : decode b_M_addArc 151 = .ok (.invokevirtual 149, 3) := by decide +kernel
theorem d_M_addArc_154 : decode b_M_addArc 154 = .ok (.lload 15, 2) := by decide +kernel
theorem d_M_addArc_156 : decode b_M_addArc 156 = .ok (.lconst 1, 1) := by decide +kernel
theorem d_M_addArc_157 : decode b_M_addArc 157 = .ok (.ladd, 1) := by decide +kernel
theorem d_M_addArc_158 : decode b_M_addArc 158 = .ok (.lstore 15, 2) := by decide +kernel
theorem d_M_addArc_160 : decode b_M_addArc 160 = .ok (.goto (-133), 3) := by decide +kernel
theorem d_M_addArc_163 : decode b_M_addArc 163 = .ok (.iload 14, 2) := by decide +kernel
theorem d_M_addArc_165 : decode b_M_addArc 165 = .ok (.ifCond .eq 4, 3) := by decide +kernel
theorem d_M_addArc_168 : decode b_M_addArc 168 = .ok (.return_, 1) := by decide +kernel
theorem d_M_addArc_169 : decode b_M_addArc 169 = .ok (.iload 9, 2) := by decide +kernel
theorem d_M_addArc_171 : decode b_M_addArc 171 = .ok (.ifCond .eq 8, 3) := by decide +kernel
theorem d_M_addArc_174 : decode b_M_addArc 174 = .ok (.lload 7, 2) := by decide +kernel
theorem d_M_addArc_176 : decode b_M_addArc 176 = .ok (.goto 5, 3) := by decide +kernel
theorem d_M_addArc_179 : decode b_M_addArc 179 = .ok (.lload 5, 2) := by decide +kernel
theorem d_M_addArc_181 : decode b_M_addArc 181 = .ok (.lstore 15, 2) := by decide +kernel
theorem d_M_addArc_183 : decode b_M_addArc 183 = .ok (.aload_n 0, 1) := by decide +kernel
theorem d_M_addArc_184 : decode b_M_addArc 184 = .ok (.lload 15, 2) := by decide +kernel
theorem d_M_addArc_186 : decode b_M_addArc 186 = .ok (.ldc2_w 92, 3) := by decide +kernel
theorem d_M_addArc_189 : decode b_M_addArc 189 = .ok (.invokestatic 104, 3) := by decide +kernel
theorem d_M_addArc_192 : decode b_M_addArc 192 = .ok (.invokevirtual 139, 3) := by decide +kernel
theorem d_M_addArc_195 : decode b_M_addArc 195 = .ok (.aload_n 0, 1) := by decide +kernel
theorem d_M_addArc_196 : decode b_M_addArc 196 = .ok (.lload 15, 2) := by decide +kernel
theorem d_M_addArc_198 : decode b_M_addArc 198 = .ok (.invokestatic 129, 3) := by decide +kernel
theorem d_M_addArc_201 : decode b_M_addArc 201 = .ok (.invokevirtual 119, 3) := by decide +kernel
theorem d_M_addArc_204 : decode b_M_addArc 204 = .ok (.aload_n 0, 1) := by decide +kernel
theorem d_M_addArc_205 : decode b_M_addArc 205 = .ok (.lload_n 1, 1) := by decide +kernel
theorem d_M_addArc_206 : decode b_M_addArc 206 = .ok (.lload_n 3, 1) := by decide +kernel
theorem d_M_addArc_207 : decode b_M_addArc 207 = .ok (.aload_n 0, 1) := by decide +kernel
theorem d_M_addArc_208 : decode b_M_addArc 208 = .ok (.getfield 26, 3) := by decide +kernel
theorem d_M_addArc_211 : decode b_M_addArc 211 = .ok (.bipush 6, 2) := by decide +kernel
theorem d_M_addArc_213 : decode b_M_addArc 213 = .ok (.laload, 1) := by decide +kernel
theorem d_M_addArc_214 : decode b_M_addArc 214 = .ok (.aload_n 0, 1) := by decide +kernel
theorem d_M_addArc_215 : decode b_M_addArc 215 = .ok (.getfield 26, 3) := by decide +kernel
theorem d_M_addArc_218 : decode b_M_addArc 218 = .ok (.bipush 7, 2) := by decide +kernel
theorem d_M_addArc_220 : decode b_M_addArc 220 = .ok (.laload, 1) := by decide +kernel
theorem d_M_addArc_221 : decode b_M_addArc 221 = .ok (.invokevirtual 145, 3) := by decide +kernel
theorem d_M_addArc_224 : decode b_M_addArc 224 = .ok (.return_, 1) := by decide +kernel
theorem d_M_arc_0 : decode b_M_arc 0 = .ok (.iload 5, 2) := by decide +kernel
theorem d_M_arc_2 : decode b_M_arc 2 = .ok (.ifCond .eq 11, 3) := by decide +kernel
theorem d_M_arc_5 : decode b_M_arc 5 = .ok (.iload 5, 2) := by decide +kernel
theorem d_M_arc_7 : decode b_M_arc 7 = .ok (.iconst 1, 1) := by decide +kernel
theorem d_M_arc_8 : decode b_M_arc 8 = .ok (.if_icmp .eq 5, 3) := by decide +kernel
theorem d_M_arc_11 : decode b_M_arc 11 = .ok (.iconst (-1), 1) := by decide +kernel
theorem d_M_arc_12 : decode b_M_arc 12 = .ok (.ireturn, 1) := by decide +kernel
theorem d_M_arc_13 : decode b_M_arc 13 = .ok (.iload 4, 2) := by decide +kernel
theorem d_M_arc_15 : decode b_M_arc 15 = .ok (.i2l, 1) := by decide +kernel
theorem d_M_arc_16 : decode b_M_arc 16 = .ok (.lstore 6, 2) := by decide +kernel
theorem d_M_arc_18 : decode b_M_arc 18 = .ok (.iload 5, 2) := by decide +kernel
theorem d_M_arc_20 : decode b_M_arc 20 = .ok (.ifCond .ne 36, 3) := by decide +kernel
theorem d_M_arc_23 : decode b_M_arc 23 = .ok (.iload 4, 2) := by decide +kernel
theorem d_M_arc_25 : decode b_M_arc 25 = .ok (.iload_n 3, 1) := by decide +kernel
theorem d_M_arc_26 : decode b_M_arc 26 = .ok (.if_icmp .ge 30, 3) := by decide +kernel
theorem d_M_arc_29 : decode b_M_arc 29 = .ok (.lload 6, 2) := by decide +kernel
theorem d_M_arc_31 : decode b_M_arc 31 = .ok (.ldc2_w 153, 3) := by decide +kernel
theorem d_M_arc_34 : decode b_M_arc 34 = .ok (.iload_n 3, 1) := by decide +kernel
theorem d_M_arc_35 : decode b_M_arc 35 = .ok (.i2l, 1) := by decide +kernel
theorem d_M_arc_36 : decode b_M_arc 36 = .ok (.iload 4, 2) := by decide +kernel
theorem d_M_arc_38 : decode b_M_arc 38 = .ok (.i2l, 1) := by decide +kernel
theorem d_M_arc_39 : decode b_M_arc 39 = .ok (.lsub, 1) := by decide +kernel
theorem d_M_arc_40 : decode b_M_arc 40 = .ok (.ldc2_w 153, 3) := by decide +kernel
theorem d_M_arc_43 : decode b_M_arc 43 = .ok (.ladd, 1) := by decide +kernel
theorem d_M_arc_44 : decode b_M_arc 44 = .ok (.lconst 1, 1) := by decide +kernel
theorem d_M_arc_45 : decode b_M_arc 45 = .ok (.lsub, 1) := by decide +kernel
theorem d_M_arc_46 : decode b_M_arc 46 = .ok (.ldc2_w 153, 3) := by decide +kernel
theorem d_M_arc_49 : decode b_M_arc 49 = .ok (.invokestatic 104, 3) := by decide +kernel
theorem d_M_arc_52 : decode b_M_arc 52 = .ok (.lmul, 1) := by decide +kernel
theorem d_M_arc_53 : decode b_M_arc 53 = .ok (.ladd, 1) := by decide +kernel
theorem d_M_arc_54 : decode b_M_arc 54 = .ok (.lstore 6, 2) := by decide +kernel
theorem d_M_arc_56 : decode b_M_arc 56 = .ok (.iload 5, 2) := by decide +kernel
theorem d_M_arc_58 : decode b_M_arc 58 = .ok (.iconst 1, 1) := by decide +kernel
theorem d_M_arc_59 : decode b_M_arc 59 = .ok (.if_icmp .ne 36, 3) := by decide +kernel
theorem d_M_arc_62 : decode b_M_arc 62 = .ok (.iload 4, 2) := by decide +kernel
theorem d_M_arc_64 : decode b_M_arc 64 = .ok (.iload_n 3, 1) := by decide +kernel
theorem d_M_arc_65 : decode b_M_arc 65 = .ok (.if_icmp .le 30, 3) := by decide +kernel
theorem d_M_arc_68 : decode b_M_arc 68 = .ok (.lload 6, 2) := by decide +kernel
theorem d_M_arc_70 : decode b_M_arc 70 = .ok (.ldc2_w 153, 3) := by decide +kernel
theorem d_M_arc_73 : decode b_M_arc 73 = .ok (.iload 4, 2) := by decide +kernel
theorem d_M_arc_75 : decode b_M_arc 75 = .ok (.i2l, 1) := by decide +kernel
theorem d_M_arc_76 : decode b_M_arc 76 = .ok (.iload_n 3, 1) := by decide +kernel
theorem d_M_arc_77 : decode b_M_arc 77 = .ok (.i2l, 1) := by decide +kernel
theorem d_M_arc_78 : decode b_M_arc 78 = .ok (.lsub, 1) := by decide +kernel
theorem d_M_arc_79 : decode b_M_arc 79 = .ok (.ldc2_w 153, 3) := by decide +kernel
theorem d_M_arc_82 : decode b_M_arc 82 = .ok (.ladd, 1) := by decide +kernel
theorem d_M_arc_83 : decode b_M_arc 83 = .ok (.lconst 1, 1) := by decide +kernel
theorem d_M_arc_84 : decode b_M_arc 84 = .ok (.lsub, 1) := by decide +kernel
theorem d_M_arc_85 : decode b_M_arc 85 = .ok (.ldc2_w 153, 3) := by decide +kernel
theorem d_M_arc_88 : decode b_M_arc 88 = .ok (.invokestatic 104, 3) := by decide +kernel
theorem d_M_arc_91 : decode b_M_arc 91 = .ok (.lmul, 1) := by decide +kernel
theorem d_M_arc_92 : decode b_M_arc 92 = .ok (.lsub, 1) := by decide +kernel
theorem d_M_arc_93 : decode b_M_arc 93 = .ok (.lstore 6, 2) := by decide +kernel
theorem d_M_arc_95 : decode b_M_arc 95 = .ok (.iload_n 1, 1) := by decide +kernel
theorem d_M_arc_96 : decode b_M_arc 96 = .ok (.i2l, 1) := by decide +kernel
theorem d_M_arc_97 : decode b_M_arc 97 = .ok (.invokestatic 88, 3) := by decide +kernel
theorem d_M_arc_100 : decode b_M_arc 100 = .ok (.ifCond .ne 35, 3) := by decide +kernel
theorem d_M_arc_103 : decode b_M_arc 103 = .ok (.iload_n 2, 1) := by decide +kernel
theorem d_M_arc_104 : decode b_M_arc 104 = .ok (.i2l, 1) := by decide +kernel
theorem d_M_arc_105 : decode b_M_arc 105 = .ok (.invokestatic 88, 3) := by decide +kernel
theorem d_M_arc_108 : decode b_M_arc 108 = .ok (.ifCond .ne 27, 3) := by decide +kernel
theorem d_M_arc_111 : decode b_M_arc 111 = .ok (.lload 6, 2) := by decide +kernel
theorem d_M_arc_113 : decode b_M_arc 113 = .ok (.iload_n 3, 1) := by decide +kernel
theorem d_M_arc_114 : decode b_M_arc 114 = .ok (.i2l, 1) := by decide +kernel
theorem d_M_arc_115 : decode b_M_arc 115 = .ok (.lsub, 1) := by decide +kernel
theorem d_M_arc_116 : decode b_M_arc 116 = .ok (.ldc2_w 155, 3) := by decide +kernel
theorem d_M_arc_119 : decode b_M_arc 119 = .ok (.lcmp, 1) := by decide +kernel
theorem d_M_arc_120 : decode b_M_arc 120 = .ok (.ifCond .gt 15, 3) := by decide +kernel
theorem d_M_arc_123 : decode b_M_arc 123 = .ok (.iload_n 3, 1) := by decide +kernel
theorem d_M_arc_124 : decode b_M_arc 124 = .ok (.i2l, 1) := by decide +kernel
theorem d_M_arc_125 : decode b_M_arc 125 = .ok (.lload 6, 2) := by decide +kernel
theorem d_M_arc_127 : decode b_M_arc 127 = .ok (.lsub, 1) := by decide +kernel
theorem d_M_arc_128 : decode b_M_arc 128 = .ok (.ldc2_w 155, 3) := by decide +kernel
theorem d_M_arc_131 : decode b_M_arc 131 = .ok (.lcmp, 1) := by decide +kernel
theorem d_M_arc_132 : decode b_M_arc 132 = .ok (.ifCond .le 6, 3) := by decide +kernel
theorem d_M_arc_135 : decode b_M_arc 135 = .ok (.bipush (-4), 2) := by decide +kernel
theorem d_M_arc_137 : decode b_M_arc 137 = .ok (.ireturn, 1) := by decide +kernel
theorem d_M_arc_138 : decode b_M_arc 138 = .ok (.aload_n 0, 1) := by decide +kernel
theorem d_M_arc_139 : decode b_M_arc 139 = .ok (.getfield 16, 3) := by decide +kernel
theorem d_M_arc_142 : decode b_M_arc 142 = .ok (.aload_n 0, 1) := by decide +kernel
theorem d_M_arc_143 : decode b_M_arc 143 = .ok (.getfield 10, 3) := by decide +kernel
theorem d_M_arc_146 : decode b_M_arc 146 = .ok (.invokevirtual 50, 3) := by decide +kernel
theorem d_M_arc_149 : decode b_M_arc 149 = .ok (.iload 5, 2) := by decide +kernel
theorem d_M_arc_151 : decode b_M_arc 151 = .ok (.ifCond .ne 19, 3) := by decide +kernel
theorem d_M_arc_154 : decode b_M_arc 154 = .ok (.aload_n 0, 1) := by decide +kernel
theorem d_M_arc_155 : decode b_M_arc 155 = .ok (.iload_n 1, 1) := by decide +kernel
theorem d_M_arc_156 : decode b_M_arc 156 = .ok (.i2l, 1) := by decide +kernel
theorem d_M_arc_157 : decode b_M_arc 157 = .ok (.iload_n 2, 1) := by decide +kernel
theorem d_M_arc_158 : decode b_M_arc 158 = .ok (.i2l, 1) := by decide +kernel
theorem d_M_arc_159 : decode b_M_arc 159 = .ok (.iload_n 3, 1) := by decide +kernel
theorem d_M_arc_160 : decode b_M_arc 160 = .ok (.i2l, 1) := by decide +kernel
theorem d_M_arc_161 : decode b_M_arc 161 = .ok (.lload 6, 2) := by decide +kernel
theorem d_M_arc_163 : decode b_M_arc 163 = .ok (.iconst 0, 1) := by decide +kernel
theorem d_M_arc_164 : decode b_M_arc 164 = .ok (.invokevirtual 157, 3) := by decide +kernel
theorem d_M_arc_167 : decode b_M_arc 167 = .ok (.goto 16, 3) := by decide +kernel
theorem d_M_arc_170 : decode b_M_arc 170 = .ok (.aload_n 0, 1) := by decide +kernel
theorem d_M_arc_171 : decode b_M_arc 171 = .ok (.iload_n 1, 1) := by decide +kernel
theorem d_M_arc_172 : decode b_M_arc 172 = .ok (.i2l, 1) := by decide +kernel
theorem d_M_arc_173 : decode b_M_arc 173 = .ok (.iload_n 2, 1) := by decide +kernel
theorem d_M_arc_174 : decode b_M_arc 174 = .ok (.i2l, 1) := by decide +kernel
theorem d_M_arc_175 : decode b_M_arc 175 = .ok (.lload 6, 2) := by decide +kernel
theorem d_M_arc_177 : decode b_M_arc 177 = .ok (.iload_n 3, 1) := by decide +kernel
theorem d_M_arc_178 : decode b_M_arc 178 = .ok (.i2l, 1) := by decide +kernel
theorem d_M_arc_179 : decode b_M_arc 179 = .ok (.iconst 1, 1) := by decide +kernel
theorem d_M_arc_180 : decode b_M_arc 180 = .ok (.invokevirtual 157, 3) := by decide +kernel
theorem d_M_arc_183 : decode b_M_arc 183 = .ok (.aload_n 0, 1) := by decide +kernel
theorem d_M_arc_184 : decode b_M_arc 184 = .ok (.invokevirtual 58, 3) := by decide +kernel
theorem d_M_arc_187 : decode b_M_arc 187 = .ok (.ireturn, 1) := by decide +kernel
theorem d_M_shift_0 : decode b_M_shift 0 = .ok (.aload_n 0, 1) := by decide +kernel
theorem d_M_shift_1 : decode b_M_shift 1 = .ok (.getfield 16, 3) := by decide +kernel
theorem d_M_shift_4 : decode b_M_shift 4 = .ok (.invokevirtual 85, 3) := by decide +kernel
theorem d_M_shift_7 : decode b_M_shift 7 = .ok (.iconst 0, 1) := by decide +kernel
theorem d_M_shift_8 : decode b_M_shift 8 = .ok (.istore_n 3, 1) := by decide +kernel
theorem d_M_shift_9 : decode b_M_shift 9 = .ok (.iload_n 3, 1) := by decide +kernel
theorem d_M_shift_10 : decode b_M_shift 10 = .ok (.aload_n 0, 1) := by decide +kernel
theorem d_M_shift_11 : decode b_M_shift 11 = .ok (.getfield 10, 3) := by decide +kernel
theorem d_M_shift_14 : decode b_M_shift 14 = .ok (.getfield 42, 3) := by decide +kernel
theorem d_M_shift_17 : decode b_M_shift 17 = .ok (.if_icmp .ge 159, 3) := by decide +kernel
theorem d_M_shift_20 : decode b_M_shift 20 = .ok (.aload_n 0, 1) := by decide +kernel
theorem d_M_shift_21 : decode b_M_shift 21 = .ok (.getfield 10, 3) := by decide +kernel
theorem d_M_shift_24 : decode b_M_shift 24 = .ok (.getfield 77, 3) := by decide +kernel
theorem d_M_shift_27 : decode b_M_shift 27 = .ok (.iload_n 3, 1) := by decide +kernel
theorem d_M_shift_28 : decode b_M_shift 28 = .ok (.baload, 1) := by decide +kernel
theorem d_M_shift_29 : decode b_M_shift 29 = .ok (.iconst 2, 1) := by decide +kernel
theorem d_M_shift_30 : decode b_M_shift 30 = .ok (.if_icmp .ne 7, 3) := by decide +kernel
theorem d_M_shift_33 : decode b_M_shift 33 = .ok (.iconst 1, 1) := by decide +kernel
theorem d_M_shift_34 : decode b_M_shift 34 = .ok (.goto 4, 3) := by decide +kernel
theorem d_M_shift_37 : decode b_M_shift 37 = .ok (.iconst 0, 1) := by decide +kernel
theorem d_M_shift_38 : decode b_M_shift 38 = .ok (.istore 4, 2) := by decide +kernel
theorem d_M_shift_40 : decode b_M_shift 40 = .ok (.aload_n 0, 1) := by decide +kernel
theorem d_M_shift_41 : decode b_M_shift 41 = .ok (.getfield 16, 3) := by decide +kernel
theorem d_M_shift_44 : decode b_M_shift 44 = .ok (.aload_n 0, 1) := by decide +kernel
theorem d_M_shift_45 : decode b_M_shift 45 = .ok (.getfield 10, 3) := by decide +kernel
theorem d_M_shift_48 : decode b_M_shift 48 = .ok (.getfield 77, 3) := by decide +kernel
theorem d_M_shift_51 : decode b_M_shift 51 = .ok (.iload_n 3, 1) := by decide +kernel
theorem d_M_shift_52 : decode b_M_shift 52 = .ok (.baload, 1) := by decide +kernel
theorem d_M_shift_53 : decode b_M_shift 53 = .ok (.aload_n 0, 1) := by decide +kernel
theorem d_M_shift_54 : decode b_M_shift 54 = .ok (.getfield 10, 3) := by decide +kernel
theorem d_M_shift_57 : decode b_M_shift 57 = .ok (.iload_n 3, 1) := by decide +kernel
theorem d_M_shift_58 : decode b_M_shift 58 = .ok (.iconst 0, 1) := by decide +kernel
theorem d_M_shift_59 : decode b_M_shift 59 = .ok (.invokevirtual 46, 3) := by decide +kernel
theorem d_M_shift_62 : decode b_M_shift 62 = .ok (.i2l, 1) := by decide +kernel
theorem d_M_shift_63 : decode b_M_shift 63 = .ok (.iload_n 1, 1) := by decide +kernel
theorem d_M_shift_64 : decode b_M_shift 64 = .ok (.i2l, 1) := by decide +kernel
theorem d_M_shift_65 : decode b_M_shift 65 = .ok (.ladd, 1) := by decide +kernel
theorem d_M_shift_66 : decode b_M_shift 66 = .ok (.aload_n 0, 1) := by decide +kernel
theorem d_M_shift_67 : decode b_M_shift 67 = .ok (.getfield 10, 3) := by decide +kernel
theorem d_M_shift_70 : decode b_M_shift 70 = .ok (.iload_n 3, 1) := by decide +kernel
theorem d_M_shift_71 : decode b_M_shift 71 = .ok (.iconst 1, 1) := by decide +kernel
theorem d_M_shift_72 : decode b_M_shift 72 = .ok (.invokevirtual 46, 3) := by decide +kernel
theorem d_M_shift_75 : decode b_M_shift 75 = .ok (.i2l, 1) := by decide +kernel
theorem d_M_shift_76 : decode b_M_shift 76 = .ok (.iload_n 2, 1) := by decide +kernel
theorem d_M_shift_77 : decode b_M_shift 77 = .ok (.i2l, 1) := by decide +kernel
theorem d_M_shift_78 : decode b_M_shift 78 = .ok (.ladd, 1) := by decide +kernel
theorem d_M_shift_79 : decode b_M_shift 79 = .ok (.iload 4, 2) := by decide +kernel
theorem d_M_shift_81 : decode b_M_shift 81 = .ok (.ifCond .eq 19, 3) := by decide +kernel
theorem d_M_shift_84 : decode b_M_shift 84 = .ok (.aload_n 0, 1) := by decide +kernel
theorem d_M_shift_85 : decode b_M_shift 85 = .ok (.getfield 10, 3) := by decide +kernel
theorem d_M_shift_88 : decode b_M_shift 88 = .ok (.iload_n 3, 1) := by decide +kernel
theorem d_M_shift_89 : decode b_M_shift 89 = .ok (.iconst 2, 1) := by decide +kernel
theorem d_M_shift_90 : decode b_M_shift 90 = .ok (.invokevirtual 46, 3) := by decide +kernel
theorem d_M_shift_93 : decode b_M_shift 93 = .ok (.i2l, 1) := by decide +kernel
theorem d_M_shift_94 : decode b_M_shift 94 = .ok (.iload_n 1, 1) := by decide +kernel
theorem d_M_shift_95 : decode b_M_shift 95 = .ok (.i2l, 1) := by decide +kernel
theorem d_M_shift_96 : decode b_M_shift 96 = .ok (.ladd, 1) := by decide +kernel
theorem d_M_shift_97 : decode b_M_shift 97 = .ok (.goto 4, 3) := by decide +kernel
theorem d_M_shift_100 : decode b_M_shift 100 = .ok (.lconst 0, 1) := by decide +kernel
theorem d_M_shift_101 : decode b_M_shift 101 = .ok (.iload 4, 2) := by decide +kernel
theorem d_M_shift_103 : decode b_M_shift 103 = .ok (.ifCond .eq 19, 3) := by decide +kernel
theorem d_M_shift_106 : decode b_M_shift 106 = .ok (.aload_n 0, 1) := by decide +kernel
theorem d_M_shift_107 : decode b_M_shift 107 = .ok (.getfield 10, 3) := by decide +kernel
theorem d_M_shift_110 : decode b_M_shift 110 = .ok (.iload_n 3, 1) := by decide +kernel
theorem d_M_shift_111 : decode b_M_shift 111 = .ok (.iconst 3, 1) := by decide +kernel
theorem d_M_shift_112 : decode b_M_shift 112 = .ok (.invokevirtual 46, 3) := by decide +kernel
theorem d_M_shift_115 : decode b_M_shift 115 = .ok (.i2l, 1) := by decide +kernel
theorem d_M_shift_116 : decode b_M_shift 116 = .ok (.iload_n 2, 1) := by decide +kernel
theorem d_M_shift_117 : decode b_M_shift 117 = .ok (.i2l, 1) := by decide +kernel
theorem d_M_shift_118 : decode b_M_shift 118 = .ok (.ladd, 1) := by decide +kernel
theorem d_M_shift_119 : decode b_M_shift 119 = .ok (.goto 4, 3) := by decide +kernel
theorem d_M_shift_122 : decode b_M_shift 122 = .ok (.lconst 0, 1) := by decide +kernel
theorem d_M_shift_123 : decode b_M_shift 123 = .ok (.iload 4, 2) := by decide +kernel
theorem d_M_shift_125 : decode b_M_shift 125 = .ok (.ifCond .eq 19, 3) := by decide +kernel
theorem d_M_shift_128 : decode b_M_shift 128 = .ok (.aload_n 0, 1) := by decide +kernel
theorem d_M_shift_129 : decode b_M_shift 129 = .ok (.getfield 10, 3) := by decide +kernel
theorem d_M_shift_132 : decode b_M_shift 132 = .ok (.iload_n 3, 1) := by decide +kernel
theorem d_M_shift_133 : decode b_M_shift 133 = .ok (.iconst 4, 1) := by decide +kernel
theorem d_M_shift_134 : decode b_M_shift 134 = .ok (.invokevirtual 46, 3) := by decide +kernel
theorem d_M_shift_137 : decode b_M_shift 137 = .ok (.i2l, 1) := by decide +kernel
theorem d_M_shift_138 : decode b_M_shift 138 = .ok (.iload_n 1, 1) := by decide +kernel
theorem d_M_shift_139 : decode b_M_shift 139 = .ok (.i2l, 1) := by decide +kernel
theorem d_M_shift_140 : decode b_M_shift 140 = .ok (.ladd, 1) := by decide +kernel
theorem d_M_shift_141 : decode b_M_shift 141 = .ok (.goto 4, 3) := by decide +kernel
theorem d_M_shift_144 : decode b_M_shift 144 = .ok (.lconst 0, 1) := by decide +kernel
theorem d_M_shift_145 : decode b_M_shift 145 = .ok (.iload 4, 2) := by decide +kernel
theorem d_M_shift_147 : decode b_M_shift 147 = .ok (.ifCond .eq 19, 3) := by decide +kernel
theorem d_M_shift_150 : decode b_M_shift 150 = .ok (.aload_n 0, 1) := by decide +kernel
theorem d_M_shift_151 : decode b_M_shift 151 = .ok (.getfield 10, 3) := by decide +kernel
theorem d_M_shift_154 : decode b_M_shift 154 = .ok (.iload_n 3, 1) := by decide +kernel
theorem d_M_shift_155 : decode b_M_shift 155 = .ok (.iconst 5, 1) := by decide +kernel
theorem d_M_shift_156 : decode b_M_shift 156 = .ok (.invokevirtual 46, 3) := by decide +kernel
theorem d_M_shift_159 : decode b_M_shift 159 = .ok (.i2l, 1) := by decide +kernel
theorem d_M_shift_160 : decode b_M_shift 160 = .ok (.iload_n 2, 1) := by decide +kernel
theorem d_M_shift_161 : decode b_M_shift 161 = .ok (.i2l, 1) := by decide +kernel
theorem d_M_shift_162 : decode b_M_shift 162 = .ok (.ladd, 1) := by decide +kernel
theorem d_M_shift_163 : decode b_M_shift 163 = .ok (.goto 4, 3) := by decide +kernel
theorem d_M_shift_166 : decode b_M_shift 166 = .ok (.lconst 0, 1) := by decide +kernel
theorem d_M_shift_167 : decode b_M_shift 167 = .ok (.invokevirtual 73, 3) := by decide +kernel
theorem d_M_shift_170 : decode b_M_shift 170 = .ok (.iinc 3 1, 3) := by decide +kernel
theorem d_M_shift_173 : decode b_M_shift 173 = .ok (.goto (-164), 3) := by decide +kernel
theorem d_M_shift_176 : decode b_M_shift 176 = .ok (.aload_n 0, 1) := by decide +kernel
theorem d_M_shift_177 : decode b_M_shift 177 = .ok (.invokevirtual 58, 3) := by decide +kernel
theorem d_M_shift_180 : decode b_M_shift 180 = .ok (.ireturn, 1) := by decide +kernel
theorem d_M_reverse_0 : decode b_M_reverse 0 = .ok (.aload_n 0, 1) := by decide +kernel
theorem d_M_reverse_1 : decode b_M_reverse 1 = .ok (.getfield 16, 3) := by decide +kernel
theorem d_M_reverse_4 : decode b_M_reverse 4 = .ok (.invokevirtual 85, 3) := by decide +kernel
theorem d_M_reverse_7 : decode b_M_reverse 7 = .ok (.iconst 0, 1) := by decide +kernel
theorem d_M_reverse_8 : decode b_M_reverse 8 = .ok (.istore_n 1, 1) := by decide +kernel
theorem d_M_reverse_9 : decode b_M_reverse 9 = .ok (.iload_n 1, 1) := by decide +kernel
theorem d_M_reverse_10 : decode b_M_reverse 10 = .ok (.aload_n 0, 1) := by decide +kernel
theorem d_M_reverse_11 : decode b_M_reverse 11 = .ok (.getfield 10, 3) := by decide +kernel
theorem d_M_reverse_14 : decode b_M_reverse 14 = .ok (.getfield 42, 3) := by decide +kernel
theorem d_M_reverse_17 : decode b_M_reverse 17 = .ok (.if_icmp .ge 47, 3) := by decide +kernel
theorem d_M_reverse_20 : decode b_M_reverse 20 = .ok (.iload_n 1, 1) := by decide +kernel
theorem d_M_reverse_21 : decode b_M_reverse 21 = .ok (.iconst 1, 1) := by decide +kernel
theorem d_M_reverse_22 : decode b_M_reverse 22 = .ok (.iadd, 1) := by decide +kernel
theorem d_M_reverse_23 : decode b_M_reverse 23 = .ok (.istore_n 2, 1) := by decide +kernel
theorem d_M_reverse_24 : decode b_M_reverse 24 = .ok (.iload_n 2, 1) := by decide +kernel
theorem d_M_reverse_25 : decode b_M_reverse 25 = .ok (.aload_n 0, 1) := by decide +kernel
theorem d_M_reverse_26 : decode b_M_reverse 26 = .ok (.getfield 10, 3) := by decide +kernel
theorem d_M_reverse_29 : decode b_M_reverse 29 = .ok (.getfield 42, 3) := by decide +kernel
theorem d_M_reverse_32 : decode b_M_reverse 32 = .ok (.if_icmp .ge 21, 3) := by decide +kernel
theorem d_M_reverse_35 : decode b_M_reverse 35 = .ok (.aload_n 0, 1) := by decide +kernel
theorem d_M_reverse_36 : decode b_M_reverse 36 = .ok (.getfield 10, 3) := by decide +kernel
theorem d_M_reverse_39 : decode b_M_reverse 39 = .ok (.getfield 77, 3) := by decide +kernel
theorem d_M_reverse_42 : decode b_M_reverse 42 = .ok (.iload_n 2, 1) := by decide +kernel
theorem d_M_reverse_43 : decode b_M_reverse 43 = .ok (.baload, 1) := by decide +kernel
theorem d_M_reverse_44 : decode b_M_reverse 44 = .ok (.ifCond .eq 9, 3) := by decide +kernel
theorem d_M_reverse_47 : decode b_M_reverse 47 = .ok (.iinc 2 1, 3) := by decide +kernel
theorem d_M_reverse_50 : decode b_M_reverse 50 = .ok (.goto (-26), 3) := by decide +kernel
theorem d_M_reverse_53 : decode b_M_reverse 53 = .ok (.aload_n 0, 1) := by decide +kernel
theorem d_M_reverse_54 : decode b_M_reverse 54 = .ok (.iload_n 1, 1) := by decide +kernel
theorem d_M_reverse_55 : decode b_M_reverse 55 = .ok (.iload_n 2, 1) := by decide +kernel
theorem d_M_reverse_56 : decode b_M_reverse 56 = .ok (.invokevirtual 161, 3) := by decide +kernel
theorem d_M_reverse_59 : decode b_M_reverse 59 = .ok (.iload_n 2, 1) := by decide +kernel
theorem d_M_reverse_60 : decode b_M_reverse 60 = .ok (.istore_n 1, 1) := by decide +kernel
theorem d_M_reverse_61 : decode b_M_reverse 61 = .ok (.goto (-52), 3) := by decide +kernel
theorem d_M_reverse_64 : decode b_M_reverse 64 = .ok (.aload_n 0, 1) := by decide +kernel
theorem d_M_reverse_65 : decode b_M_reverse 65 = .ok (.invokevirtual 58, 3) := by decide +kernel
theorem d_M_reverse_68 : decode b_M_reverse 68 = .ok (.ireturn, 1) := by decide +kernel
theorem d_M_turn_0 : decode b_M_turn 0 = .ok (.aload_n 0, 1) := by decide +kernel
theorem d_M_turn_1 : decode b_M_turn 1 = .ok (.getfield 10, 3) := by decide +kernel
theorem d_M_turn_4 : decode b_M_turn 4 = .ok (.getfield 77, 3) := by decide +kernel
theorem d_M_turn_7 : decode b_M_turn 7 = .ok (.iload_n 2, 1) := by decide +kernel
theorem d_M_turn_8 : decode b_M_turn 8 = .ok (.iconst 1, 1) := by decide +kernel
theorem d_M_turn_9 : decode b_M_turn 9 = .ok (.isub, 1) := by decide +kernel
theorem d_M_turn_10 : decode b_M_turn 10 = .ok (.baload, 1) := by decide +kernel
theorem d_M_turn_11 : decode b_M_turn 11 = .ok (.iconst 3, 1) := by decide +kernel
theorem d_M_turn_12 : decode b_M_turn 12 = .ok (.if_icmp .ne 7, 3) := by decide +kernel
theorem d_M_turn_15 : decode b_M_turn 15 = .ok (.iconst 1, 1) := by decide +kernel
theorem d_M_turn_16 : decode b_M_turn 16 = .ok (.goto 4, 3) := by decide +kernel
theorem d_M_turn_19 : decode b_M_turn 19 = .ok (.iconst 0, 1) := by decide +kernel
theorem d_M_turn_20 : decode b_M_turn 20 = .ok (.istore_n 3, 1) := by decide +kernel
theorem d_M_turn_21 : decode b_M_turn 21 = .ok (.iload_n 3, 1) := by decide +kernel
theorem d_M_turn_22 : decode b_M_turn 22 = .ok (.ifCond .eq 9, 3) := by decide +kernel
theorem d_M_turn_25 : decode b_M_turn 25 = .ok (.iload_n 2, 1) := by decide +kernel
theorem d_M_turn_26 : decode b_M_turn 26 = .ok (.iconst 2, 1) := by decide +kernel
theorem d_M_turn_27 : decode b_M_turn 27 = .ok (.isub, 1) := by decide +kernel
theorem d_M_turn_28 : decode b_M_turn 28 = .ok (.goto 6, 3) := by decide +kernel
theorem d_M_turn_31 : decode b_M_turn 31 = .ok (.iload_n 2, 1) := by decide +kernel
theorem d_M_turn_32 : decode b_M_turn 32 = .ok (.iconst 1, 1) := by decide +kernel
theorem d_M_turn_33 : decode b_M_turn 33 = .ok (.isub, 1) := by decide +kernel
theorem d_M_turn_34 : decode b_M_turn 34 = .ok (.istore 4, 2) := by decide +kernel
theorem d_M_turn_36 : decode b_M_turn 36 = .ok (.aload_n 0, 1) := by decide +kernel
theorem d_M_turn_37 : decode b_M_turn 37 = .ok (.getfield 16, 3) := by decide +kernel
theorem d_M_turn_40 : decode b_M_turn 40 = .ok (.iconst 0, 1) := by decide +kernel
theorem d_M_turn_41 : decode b_M_turn 41 = .ok (.aload_n 0, 1) := by decide +kernel
theorem d_M_turn_42 : decode b_M_turn 42 = .ok (.getfield 10, 3) := by decide +kernel
theorem d_M_turn_45 : decode b_M_turn 45 = .ok (.iload 4, 2) := by decide +kernel
theorem d_M_turn_47 : decode b_M_turn 47 = .ok (.iconst 0, 1) := by decide +kernel
theorem d_M_turn_48 : decode b_M_turn 48 = .ok (.invokevirtual 46, 3) := by decide +kernel
theorem d_M_turn_51 : decode b_M_turn 51 = .ok (.i2l, 1) := by decide +kernel
theorem d_M_turn_52 : decode b_M_turn 52 = .ok (.aload_n 0, 1) := by decide +kernel
theorem d_M_turn_53 : decode b_M_turn 53 = .ok (.getfield 10, 3) := by decide +kernel
theorem d_M_turn_56 : decode b_M_turn 56 = .ok (.iload 4, 2) := by decide +kernel
theorem d_M_turn_58 : decode b_M_turn 58 = .ok (.iconst 1, 1) := by decide +kernel
theorem d_M_turn_59 : decode b_M_turn 59 = .ok (.invokevirtual 46, 3) := by decide +kernel
theorem d_M_turn_62 : decode b_M_turn 62 = .ok (.i2l, 1) := by decide +kernel
theorem d_M_turn_63 : decode b_M_turn 63 = .ok (.invokevirtual 69, 3) := by decide +kernel
theorem d_M_turn_66 : decode b_M_turn 66 = .ok (.iload 4, 2) := by decide +kernel
theorem d_M_turn_68 : decode b_M_turn 68 = .ok (.istore 5, 2) := by decide +kernel
theorem d_M_turn_70 : decode b_M_turn 70 = .ok (.iload 5, 2) := by decide +kernel
theorem d_M_turn_72 : decode b_M_turn 72 = .ok (.iload_n 1, 1) := by decide +kernel
theorem d_M_turn_73 : decode b_M_turn 73 = .ok (.if_icmp .le 153, 3) := by decide +kernel
theorem d_M_turn_76 : decode b_M_turn 76 = .ok (.aload_n 0, 1) := by decide +kernel
theorem d_M_turn_77 : decode b_M_turn 77 = .ok (.getfield 10, 3) := by decide +kernel
theorem d_M_turn_80 : decode b_M_turn 80 = .ok (.getfield 77, 3) := by decide +kernel
theorem d_M_turn_83 : decode b_M_turn 83 = .ok (.iload 5, 2) := by decide +kernel
theorem d_M_turn_85 : decode b_M_turn 85 = .ok (.baload, 1) := by decide +kernel
theorem d_M_turn_86 : decode b_M_turn 86 = .ok (.iconst 2, 1) := by decide +kernel
theorem d_M_turn_87 : decode b_M_turn 87 = .ok (.if_icmp .ne 7, 3) := by decide +kernel
theorem d_M_turn_90 : decode b_M_turn 90 = .ok (.iconst 1, 1) := by decide +kernel
theorem d_M_turn_91 : decode b_M_turn 91 = .ok (.goto 4, 3) := by decide +kernel
theorem d_M_turn_94 : decode b_M_turn 94 = .ok (.iconst 0, 1) := by decide +kernel
theorem d_M_turn_95 : decode b_M_turn 95 = .ok (.istore 6, 2) := by decide +kernel
theorem d_M_turn_97 : decode b_M_turn 97 = .ok (.aload_n 0, 1) := by decide +kernel
theorem d_M_turn_98 : decode b_M_turn 98 = .ok (.getfield 16, 3) := by decide +kernel
theorem d_M_turn_101 : decode b_M_turn 101 = .ok (.aload_n 0, 1) := by decide +kernel
theorem d_M_turn_102 : decode b_M_turn 102 = .ok (.getfield 10, 3) := by decide +kernel
theorem d_M_turn_105 : decode b_M_turn 105 = .ok (.getfield 77, 3) := by decide +kernel
theorem d_M_turn_108 : decode b_M_turn 108 = .ok (.iload 5, 2) := by decide +kernel
theorem d_M_turn_110 : decode b_M_turn 110 = .ok (.baload, 1) := by decide +kernel
theorem d_M_turn_111 : decode b_M_turn 111 = .ok (.aload_n 0, 1) := by decide +kernel
theorem d_M_turn_112 : decode b_M_turn 112 = .ok (.getfield 10, 3) := by decide +kernel
theorem d_M_turn_115 : decode b_M_turn 115 = .ok (.iload 5, 2) := by decide +kernel
theorem d_M_turn_117 : decode b_M_turn 117 = .ok (.iconst 1, 1) := by decide +kernel
theorem d_M_turn_118 : decode b_M_turn 118 = .ok (.isub, 1) := by decide +kernel
theorem d_M_turn_119 : decode b_M_turn 119 = .ok (.iconst 0, 1) := by decide +kernel
theorem d_M_turn_120 : decode b_M_turn 120 = .ok (.invokevirtual 46, 3) := by decide +kernel
theorem d_M_turn_123 : decode b_M_turn 123 = .ok (.i2l, 1) := by decide +kernel
theorem d_M_turn_124 : decode b_M_turn 124 = .ok (.aload_n 0, 1) := by decide +kernel
theorem d_M_turn_125 : decode b_M_turn 125 = .ok (.getfield 10, 3) := by decide +kernel
theorem d_M_turn_128 : decode b_M_turn 128 = .ok (.iload 5, 2) := by decide +kernel
theorem d_M_turn_130 : decode b_M_turn 130 = .ok (.iconst 1, 1) := by decide +kernel
theorem d_M_turn_131 : decode b_M_turn 131 = .ok (.isub, 1) := by decide +kernel
theorem d_M_turn_132 : decode b_M_turn 132 = .ok (.iconst 1, 1) := by decide +kernel
theorem d_M_turn_133 : decode b_M_turn 133 = .ok (.invokevirtual 46, 3) := by decide +kernel
theorem d_M_turn_136 : decode b_M_turn 136 = .ok (.i2l, 1) := by decide +kernel
theorem d_M_turn_137 : decode b_M_turn 137 = .ok (.iload 6, 2) := by decide +kernel
theorem d_M_turn_139 : decode b_M_turn 139 = .ok (.ifCond .eq 17, 3) := by decide +kernel
theorem d_M_turn_142 : decode b_M_turn 142 = .ok (.aload_n 0, 1) := by decide +kernel
theorem d_M_turn_143 : decode b_M_turn 143 = .ok (.getfield 10, 3) := by decide +kernel
theorem d_M_turn_146 : decode b_M_turn 146 = .ok (.iload 5, 2) := by decide +kernel
theorem d_M_turn_148 : decode b_M_turn 148 = .ok (.iconst 4, 1) := by decide +kernel
theorem d_M_turn_149 : decode b_M_turn 149 = .ok (.invokevirtual 46, 3) := by decide +kernel
theorem d_M_turn_152 : decode b_M_turn 152 = .ok (.i2l, 1) := by decide +kernel
theorem d_M_turn_153 : decode b_M_turn 153 = .ok (.goto 4, 3) := by decide +kernel
theorem d_M_turn_156 : decode b_M_turn 156 = .ok (.lconst 0, 1) := by decide +kernel
theorem d_M_turn_157 : decode b_M_turn 157 = .ok (.iload 6, 2) := by decide +kernel
theorem d_M_turn_159 : decode b_M_turn 159 = .ok (.ifCond .eq 17, 3) := by decide +kernel
theorem d_M_turn_162 : decode b_M_turn 162 = .ok (.aload_n 0, 1) := by decide +kernel
theorem d_M_turn_163 : decode b_M_turn 163 = .ok (.getfield 10, 3) := by decide +kernel
theorem d_M_turn_166 : decode b_M_turn 166 = .ok (.iload 5, 2) := by decide +kernel
theorem d_M_turn_168 : decode b_M_turn 168 = .ok (.iconst 5, 1) := by decide +kernel
theorem d_M_turn_169 : decode b_M_turn 169 = .ok (.invokevirtual 46, 3) := by decide +kernel
theorem d_M_turn_172 : decode b_M_turn 172 = .ok (.i2l, 1) := by decide +kernel
theorem d_M_turn_173 : decode b_M_turn 173 = .ok (.goto 4, 3) := by decide +kernel
theorem d_M_turn_176 : decode b_M_turn 176 = .ok (.lconst 0, 1) := by decide +kernel
theorem d_M_turn_177 : decode b_M_turn 177 = .ok (.iload 6, 2) := by decide +kernel
theorem d_M_turn_179 : decode b_M_turn 179 = .ok (.ifCond .eq 17, 3) := by decide +kernel
theorem d_M_turn_182 : decode b_M_turn 182 = .ok (.aload_n 0, 1) := by decide +kernel
theorem d_M_turn_183 : decode b_M_turn 183 = .ok (.getfield 10, 3) := by decide +kernel
theorem d_M_turn_186 : decode b_M_turn 186 = .ok (.iload 5, 2) := by decide +kernel
theorem d_M_turn_188 : decode b_M_turn 188 = .ok (.iconst 2, 1) := by decide +kernel
theorem d_M_turn_189 : decode b_M_turn 189 = .ok (.invokevirtual 46, 3) := by decide +kernel
theorem d_M_turn_192 : decode b_M_turn 192 = .ok (.i2l, 1) := by decide +kernel
theorem d_M_turn_193 : decode b_M_turn 193 = .ok (.goto 4, 3) := by decide +kernel
theorem d_M_turn_196 : decode b_M_turn 196 = .ok (.lconst 0, 1) := by decide +kernel
theorem d_M_turn_197 : decode b_M_turn 197 = .ok (.iload 6, 2) := by decide +kernel
theorem d_M_turn_199 : decode b_M_turn 199 = .ok (.ifCond .eq 17, 3) := by decide +kernel
theorem d_M_turn_202 : decode b_M_turn 202 = .ok (.aload_n 0, 1) := by decide +kernel
theorem d_M_turn_203 : decode b_M_turn 203 = .ok (.getfield 10, 3) := by decide +kernel
theorem d_M_turn_206 : decode b_M_turn 206 = .ok (.iload 5, 2) := by decide +kernel
theorem d_M_turn_208 : decode b_M_turn 208 = .ok (.iconst 3, 1) := by decide +kernel
theorem d_M_turn_209 : decode b_M_turn 209 = .ok (.invokevirtual 46, 3) := by decide +kernel
theorem d_M_turn_212 : decode b_M_turn 212 = .ok (.i2l, 1) := by decide +kernel
theorem d_M_turn_213 : decode b_M_turn 213 = .ok (.goto 4, 3) := by decide +kernel
theorem d_M_turn_216 : decode b_M_turn 216 = .ok (.lconst 0, 1) := by decide +kernel
theorem d_M_turn_217 : decode b_M_turn 217 = .ok (.invokevirtual 73, 3) := by decide +kernel
theorem d_M_turn_220 : decode b_M_turn 220 = .ok (.iinc 5 (-1), 3) := by decide +kernel
theorem d_M_turn_223 : decode b_M_turn 223 = .ok (.goto (-153), 3) := by decide +kernel
theorem d_M_turn_226 : decode b_M_turn 226 = .ok (.iload_n 3, 1) := by decide +kernel
theorem d_M_turn_227 : decode b_M_turn 227 = .ok (.ifCond .eq 33, 3) := by decide +kernel
theorem d_M_turn_230 : decode b_M_turn 230 = .ok (.aload_n 0, 1) := by decide +kernel
theorem d_M_turn_231 : decode b_M_turn 231 = .ok (.getfield 16, 3) := by decide +kernel
theorem d_M_turn_234 : decode b_M_turn 234 = .ok (.iconst 3, 1) := by decide +kernel
theorem d_M_turn_235 : decode b_M_turn 235 = .ok (.aload_n 0, 1) := by decide +kernel
theorem d_M_turn_236 : decode b_M_turn 236 = .ok (.getfield 10, 3) := by decide +kernel
theorem d_M_turn_239 : decode b_M_turn 239 = .ok (.iload 4, 2) := by decide +kernel
theorem d_M_turn_241 : decode b_M_turn 241 = .ok (.iconst 0, 1) := by decide +kernel
theorem d_M_turn_242 : decode b_M_turn 242 = .ok (.invokevirtual 46, 3) := by decide +kernel
theorem d_M_turn_245 : decode b_M_turn 245 = .ok (.i2l, 1) := by decide +kernel
theorem d_M_turn_246 : decode b_M_turn 246 = .ok (.aload_n 0, 1) := by decide +kernel
theorem d_M_turn_247 : decode b_M_turn 247 = .ok (.getfield 10, 3) := by decide +kernel
theorem d_M_turn_250 : decode b_M_turn 250 = .ok (.iload 4, 2) := by decide +kernel
theorem d_M_turn_252 : decode b_M_turn 252 = .ok (.iconst 1, 1) := by decide +kernel
theorem d_M_turn_253 : decode b_M_turn 253 = .ok (.invokevirtual 46, 3) := by decide +kernel
theorem d_M_turn_256 : decode b_M_turn 256 = .ok (.i2l, 1) := by decide +kernel
theorem d_M_turn_257 : decode b_M_turn 257 = .ok (.invokevirtual 69, 3) := by decide +kernel
theorem d_M_turn_260 : decode b_M_turn 260 = .ok (.return_, 1) := by decide +kernel
theorem d_M_isStraight_0 : decode b_M_isStraight 0 = .ok (.ldc2_w 165, 3) := by decide +kernel
theorem d_M_isStraight_3 : decode b_M_isStraight 3 = .ok (.lload_n 0, 1) := by decide +kernel
theorem d_M_isStraight_4 : decode b_M_isStraight 4 = .ok (.ldc2_w 123, 3) := by decide +kernel
theorem d_M_isStraight_7 : decode b_M_isStraight 7 = .ok (.lload_n 2, 1) := by decide +kernel
theorem d_M_isStraight_8 : decode b_M_isStraight 8 = .ok (.lmul, 1) := by decide +kernel
theorem d_M_isStraight_9 : decode b_M_isStraight 9 = .ok (.lsub, 1) := by decide +kernel
theorem d_M_isStraight_10 : decode b_M_isStraight 10 = .ok (.lload 4, 2) := by decide +kernel
theorem d_M_isStraight_12 : decode b_M_isStraight 12 = .ok (.ladd, 1) := by decide +kernel
theorem d_M_isStraight_13 : decode b_M_isStraight 13 = .ok (.invokestatic 167, 3) := by decide +kernel
theorem d_M_isStraight_16 : decode b_M_isStraight 16 = .ok (.lmul, 1) := by decide +kernel
theorem d_M_isStraight_17 : decode b_M_isStraight 17 = .ok (.ldc2_w 123, 3) := by decide +kernel
theorem d_M_isStraight_20 : decode b_M_isStraight 20 = .ok (.iload 6, 2) := by decide +kernel
theorem d_M_isStraight_22 : decode b_M_isStraight 22 = .ok (.i2l, 1) := by decide +kernel
theorem d_M_isStraight_23 : decode b_M_isStraight 23 = .ok (.lmul, 1) := by decide +kernel
theorem d_M_isStraight_24 : decode b_M_isStraight 24 = .ok (.lcmp, 1) := by decide +kernel
theorem d_M_isStraight_25 : decode b_M_isStraight 25 = .ok (.ifCond .gt 7, 3) := by decide +kernel
theorem d_M_isStraight_28 : decode b_M_isStraight 28 = .ok (.iconst 1, 1) := by decide +kernel
theorem d_M_isStraight_29 : decode b_M_isStraight 29 = .ok (.goto 4, 3) := by decide +kernel
theorem d_M_isStraight_32 : decode b_M_isStraight 32 = .ok (.iconst 0, 1) := by decide +kernel
theorem d_M_isStraight_33 : decode b_M_isStraight 33 = .ok (.ireturn, 1) := by decide +kernel
theorem d_M_lay_0 : decode b_M_lay 0 = .ok (.iload 18, 2) := by decide +kernel
theorem d_M_lay_2 : decode b_M_lay 2 = .ok (.bipush 10, 2) := by decide +kernel
theorem d_M_lay_4 : decode b_M_lay 4 = .ok (.if_icmp .eq 57, 3) := by decide +kernel
theorem d_M_lay_7 : decode b_M_lay 7 = .ok (.lload_n 1, 1) := by decide +kernel
theorem d_M_lay_8 : decode b_M_lay 8 = .ok (.lload 5, 2) := by decide +kernel
theorem d_M_lay_10 : decode b_M_lay 10 = .ok (.lload 9, 2) := by decide +kernel
theorem d_M_lay_12 : decode b_M_lay 12 = .ok (.iload 17, 2) := by decide +kernel
theorem d_M_lay_14 : decode b_M_lay 14 = .ok (.invokestatic 170, 3) := by decide +kernel
theorem d_M_lay_17 : decode b_M_lay 17 = .ok (.ifCond .eq 54, 3) := by decide +kernel
theorem d_M_lay_20 : decode b_M_lay 20 = .ok (.lload_n 3, 1) := by decide +kernel
theorem d_M_lay_21 : decode b_M_lay 21 = .ok (.lload 7, 2) := by decide +kernel
theorem d_M_lay_23 : decode b_M_lay 23 = .ok (.lload 11, 2) := by decide +kernel
theorem d_M_lay_25 : decode b_M_lay 25 = .ok (.iload 17, 2) := by decide +kernel
theorem d_M_lay_27 : decode b_M_lay 27 = .ok (.invokestatic 170, 3) := by decide +kernel
theorem d_M_lay_30 : decode b_M_lay 30 = .ok (.ifCond .eq 41, 3) := by decide +kernel
theorem d_M_lay_33 : decode b_M_lay 33 = .ok (.lload 5, 2) := by decide +kernel
theorem d_M_lay_35 : decode b_M_lay 35 = .ok (.lload 9, 2) := by decide +kernel
theorem d_M_lay_37 : decode b_M_lay 37 = .ok (.lload 13, 2) := by decide +kernel
theorem d_M_lay_39 : decode b_M_lay 39 = .ok (.iload 17, 2) := by decide +kernel
theorem d_M_lay_41 : decode b_M_lay 41 = .ok (.invokestatic 170, 3) := by decide +kernel
theorem d_M_lay_44 : decode b_M_lay 44 = .ok (.ifCond .eq 27, 3) := by decide +kernel
theorem d_M_lay_47 : decode b_M_lay 47 = .ok (.lload 7, 2) := by decide +kernel
theorem d_M_lay_49 : decode b_M_lay 49 = .ok (.lload 11, 2) := by decide +kernel
theorem d_M_lay_51 : decode b_M_lay 51 = .ok (.lload 15, 2) := by decide +kernel
theorem d_M_lay_53 : decode b_M_lay 53 = .ok (.iload 17, 2) := by decide +kernel
theorem d_M_lay_55 : decode b_M_lay 55 = .ok (.invokestatic 170, 3) := by decide +kernel
theorem d_M_lay_58 : decode b_M_lay 58 = .ok (.ifCond .eq 13, 3) := by decide +kernel
theorem d_M_lay_61 : decode b_M_lay 61 = .ok (.aload_n 0, 1) := by decide +kernel
theorem d_M_lay_62 : decode b_M_lay 62 = .ok (.iconst 1, 1) := by decide +kernel
theorem d_M_lay_63 : decode b_M_lay 63 = .ok (.lload 13, 2) := by decide +kernel
theorem d_M_lay_65 : decode b_M_lay 65 = .ok (.lload 15, 2) := by decide +kernel
theorem d_M_lay_67 : decode b_M_lay 67 = .ok (.invokevirtual 69, 3) := by decide +kernel
theorem d_M_lay_70 : decode b_M_lay 70 = .ok (.return_, 1) := by decide +kernel
theorem d_M_lay_71 : decode b_M_lay 71 = .ok (.lload_n 1, 1) := by decide +kernel
theorem d_M_lay_72 : decode b_M_lay 72 = .ok (.lload 5, 2) := by decide +kernel
theorem d_M_lay_74 : decode b_M_lay 74 = .ok (.ladd, 1) := by decide +kernel
theorem d_M_lay_75 : decode b_M_lay 75 = .ok (.iconst 1, 1) := by decide +kernel
theorem d_M_lay_76 : decode b_M_lay 76 = .ok (.lshr, 1) := by decide +kernel
theorem d_M_lay_77 : decode b_M_lay 77 = .ok (.lstore 19, 2) := by decide +kernel
theorem d_M_lay_79 : decode b_M_lay 79 = .ok (.lload_n 3, 1) := by decide +kernel
theorem d_M_lay_80 : decode b_M_lay 80 = .ok (.lload 7, 2) := by decide +kernel
theorem d_M_lay_82 : decode b_M_lay 82 = .ok (.ladd, 1) := by decide +kernel
theorem d_M_lay_83 : decode b_M_lay 83 = .ok (.iconst 1, 1) := by decide +kernel
theorem d_M_lay_84 : decode b_M_lay 84 = .ok (.lshr, 1) := by decide +kernel
theorem d_M_lay_85 : decode b_M_lay 85 = .ok (.lstore 21, 2) := by decide +kernel
theorem d_M_lay_87 : decode b_M_lay 87 = .ok (.lload 5, 2) := by decide +kernel
theorem d_M_lay_89 : decode b_M_lay 89 = .ok (.lload 9, 2) := by decide +kernel
theorem d_M_lay_91 : decode b_M_lay 91 = .ok (.ladd, 1) := by decide +kernel
theorem d_M_lay_92 : decode b_M_lay 92 = .ok (.iconst 1, 1) := by decide +kernel
theorem d_M_lay_93 : decode b_M_lay 93 = .ok (.lshr, 1) := by decide +kernel
theorem d_M_lay_94 : decode b_M_lay 94 = .ok (.lstore 23, 2) := by decide +kernel
theorem d_M_lay_96 : decode b_M_lay 96 = .ok (.lload 7, 2) := by decide +kernel
theorem d_M_lay_98 : decode b_M_lay 98 = .ok (.lload 11, 2) := by decide +kernel
theorem d_M_lay_100 : decode b_M_lay 100 = .ok (.ladd, 1) := by decide +kernel
theorem d_M_lay_101 : decode b_M_lay 101 = .ok (.iconst 1, 1) := by decide +kernel
theorem d_M_lay_102 : decode b_M_lay 102 = .ok (.lshr, 1) := by decide +kernel
theorem d_M_lay_103 : decode b_M_lay 103 = .ok (.lstore 25, 2) := by decide +kernel
theorem d_M_lay_105 : decode b_M_lay 105 = .ok (.lload 9, 2) := by decide +kernel
theorem d_M_lay_107 : decode b_M_lay 107 = .ok (.lload 13, 2) := by decide +kernel
theorem d_M_lay_109 : decode b_M_lay 109 = .ok (.ladd, 1) := by decide +kernel
theorem d_M_lay_110 : decode b_M_lay 110 = .ok (.iconst 1, 1) := by decide +kernel
theorem d_M_lay_111 : decode b_M_lay 111 = .ok (.lshr, 1) := by decide +kernel
theorem d_M_lay_112 : decode b_M_lay 112 = .ok (.lstore 27, 2) := by decide +kernel
theorem d_M_lay_114 : decode b_M_lay 114 = .ok (.lload 11, 2) := by decide +kernel
theorem d_M_lay_116 : decode b_M_lay 116 = .ok (.lload 15, 2) := by decide +kernel
theorem d_M_lay_118 : decode b_M_lay 118 = .ok (.ladd, 1) := by decide +kernel
theorem d_M_lay_119 : decode b_M_lay 119 = .ok (.iconst 1, 1) := by decide +kernel
theorem d_M_lay_120 : decode b_M_lay 120 = .ok (.lshr, 1) := by decide +kernel
theorem d_M_lay_121 : decode b_M_lay 121 = .ok (.lstore 29, 2) := by decide +kernel
theorem d_M_lay_123 : decode b_M_lay 123 = .ok (.lload 19, 2) := by decide +kernel
theorem d_M_lay_125 : decode b_M_lay 125 = .ok (.lload 23, 2) := by decide +kernel
theorem d_M_lay_127 : decode b_M_lay 127 = .ok (.ladd, 1) := by decide +kernel
theorem d_M_lay_128 : decode b_M_lay 128 = .ok (.iconst 1, 1) := by decide +kernel
theorem d_M_lay_129 : decode b_M_lay 129 = .ok (.lshr, 1) := by decide +kernel
theorem d_M_lay_130 : decode b_M_lay 130 = .ok (.lstore 31, 2) := by decide +kernel
theorem d_M_lay_132 : decode b_M_lay 132 = .ok (.lload 21, 2) := by decide +kernel
theorem d_M_lay_134 : decode b_M_lay 134 = .ok (.lload 25, 2) := by decide +kernel
theorem d_M_lay_136 : decode b_M_lay 136 = .ok (.ladd, 1) := by decide +kernel
theorem d_M_lay_137 : decode b_M_lay 137 = .ok (.iconst 1, 1) := by decide +kernel
theorem d_M_lay_138 : decode b_M_lay 138 = .ok (.lshr, 1) := by decide +kernel
theorem d_M_lay_139 : decode b_M_lay 139 = .ok (.lstore 33, 2) := by decide +kernel
theorem d_M_lay_141 : decode b_M_lay 141 = .ok (.lload 23, 2) := by decide +kernel
theorem d_M_lay_143 : decode b_M_lay 143 = .ok (.lload 27, 2) := by decide +kernel
theorem d_M_lay_145 : decode b_M_lay 145 = .ok (.ladd, 1) := by decide +kernel
theorem d_M_lay_146 : decode b_M_lay 146 = .ok (.iconst 1, 1) := by decide +kernel
theorem d_M_lay_147 : decode b_M_lay 147 = .ok (.lshr, 1) := by decide +kernel
theorem d_M_lay_148 : decode b_M_lay 148 = .ok (.lstore 35, 2) := by decide +kernel
theorem d_M_lay_150 : decode b_M_lay 150 = .ok (.lload 25, 2) := by decide +kernel
theorem d_M_lay_152 : decode b_M_lay 152 = .ok (.lload 29, 2) := by decide +kernel
theorem d_M_lay_154 : decode b_M_lay 154 = .ok (.ladd, 1) := by decide +kernel
theorem d_M_lay_155 : decode b_M_lay 155 = .ok (.iconst 1, 1) := by decide +kernel
theorem d_M_lay_156 : decode b_M_lay 156 = .ok (.lshr, 1) := by decide +kernel
theorem d_M_lay_157 : decode b_M_lay 157 = .ok (.lstore 37, 2) := by decide +kernel
theorem d_M_lay_159 : decode b_M_lay 159 = .ok (.lload 31, 2) := by decide +kernel
theorem d_M_lay_161 : decode b_M_lay 161 = .ok (.lload 35, 2) := by decide +kernel
theorem d_M_lay_163 : decode b_M_lay 163 = .ok (.ladd, 1) := by decide +kernel
theorem d_M_lay_164 : decode b_M_lay 164 = .ok (.iconst 1, 1) := by decide +kernel
theorem d_M_lay_165 : decode b_M_lay 165 = .ok (.lshr, 1) := by decide +kernel
theorem d_M_lay_166 : decode b_M_lay 166 = .ok (.lstore 39, 2) := by decide +kernel
theorem d_M_lay_168 : decode b_M_lay 168 = .ok (.lload 33, 2) := by decide +kernel
theorem d_M_lay_170 : decode b_M_lay 170 = .ok (.lload 37, 2) := by decide +kernel
theorem d_M_lay_172 : decode b_M_lay 172 = .ok (.ladd, 1) := by decide +kernel
theorem d_M_lay_173 : decode b_M_lay 173 = .ok (.iconst 1, 1) := by decide +kernel
theorem d_M_lay_174 : decode b_M_lay 174 = .ok (.lshr, 1) := by decide +kernel
theorem d_M_lay_175 : decode b_M_lay 175 = .ok (.lstore 41, 2) := by decide +kernel
theorem d_M_lay_177 : decode b_M_lay 177 = .ok (.aload_n 0, 1) := by decide +kernel
theorem d_M_lay_178 : decode b_M_lay 178 = .ok (.lload_n 1, 1) := by decide +kernel
theorem d_M_lay_179 : decode b_M_lay 179 = .ok (.lload_n 3, 1) := by decide +kernel
theorem d_M_lay_180 : decode b_M_lay 180 = .ok (.lload 19, 2) := by decide +kernel
theorem d_M_lay_182 : decode b_M_lay 182 = .ok (.lload 21, 2) := by decide +kernel
theorem d_M_lay_184 : decode b_M_lay 184 = .ok (.lload 31, 2) := by decide +kernel
theorem d_M_lay_186 : decode b_M_lay 186 = .ok (.lload 33, 2) := by decide +kernel
theorem d_M_lay_188 : decode b_M_lay 188 = .ok (.lload 39, 2) := by decide +kernel
theorem d_M_lay_190 : decode b_M_lay 190 = .ok (.lload 41, 2) := by decide +kernel
theorem d_M_lay_192 : decode b_M_lay 192 = .ok (.iload 17, 2) := by decide +kernel
theorem d_M_lay_194 : decode b_M_lay 194 = .ok (.iload 18, 2) := by decide +kernel
theorem d_M_lay_196 : decode b_M_lay 196 = .ok (.iconst 1, 1) := by decide +kernel
theorem d_M_lay_197 : decode b_M_lay 197 = .ok (.iadd, 1) := by decide +kernel
theorem d_M_lay_198 : decode b_M_lay 198 = .ok (.invokestatic 174, 3) := by decide +kernel
theorem d_M_lay_201 : decode b_M_lay 201 = .ok (.aload_n 0, 1) := by decide +kernel
theorem d_M_lay_202 : decode b_M_lay 202 = .ok (.lload 39, 2) := by decide +kernel
theorem d_M_lay_204 : decode b_M_lay 204 = .ok (.lload 41, 2) := by decide +kernel
theorem d_M_lay_206 : decode b_M_lay 206 = .ok (.lload 35, 2) := by decide +kernel
theorem d_M_lay_208 : decode b_M_lay 208 = .ok (.lload 37, 2) := by decide +kernel
theorem d_M_lay_210 : decode b_M_lay 210 = .ok (.lload 27, 2) := by decide +kernel
theorem d_M_lay_212 : decode b_M_lay 212 = .ok (.lload 29, 2) := by decide +kernel
theorem d_M_lay_214 : decode b_M_lay 214 = .ok (.lload 13, 2) := by decide +kernel
theorem d_M_lay_216 : decode b_M_lay 216 = .ok (.lload 15, 2) := by decide +kernel
theorem d_M_lay_218 : decode b_M_lay 218 = .ok (.iload 17, 2) := by decide +kernel
theorem d_M_lay_220 : decode b_M_lay 220 = .ok (.iload 18, 2) := by decide +kernel
theorem d_M_lay_222 : decode b_M_lay 222 = .ok (.iconst 1, 1) := by decide +kernel
theorem d_M_lay_223 : decode b_M_lay 223 = .ok (.iadd, 1) := by decide +kernel
theorem d_M_lay_224 : decode b_M_lay 224 = .ok (.invokestatic 174, 3) := by decide +kernel
theorem d_M_lay_227 : decode b_M_lay 227 = .ok (.return_, 1) := by decide +kernel
theorem d_M_flatten_0 : decode b_M_flatten 0 = .ok (.iload_n 1, 1) := by decide +kernel
theorem d_M_flatten_1 : decode b_M_flatten 1 = .ok (.iconst 1, 1) := by decide +kernel
theorem d_M_flatten_2 : decode b_M_flatten 2 = .ok (.if_icmp .lt 9, 3) := by decide +kernel
theorem d_M_flatten_5 : decode b_M_flatten 5 = .ok (.iload_n 1, 1) := by decide +kernel
theorem d_M_flatten_6 : decode b_M_flatten 6 = .ok (.ldc 178, 2) := by decide +kernel
theorem d_M_flatten_8 : decode b_M_flatten 8 = .ok (.if_icmp .le 5, 3) := by decide +kernel
theorem d_M_flatten_11 : decode b_M_flatten 11 = .ok (.iconst (-1), 1) := by decide +kernel
theorem d_M_flatten_12 : decode b_M_flatten 12 = .ok (.ireturn, 1) := by decide +kernel
theorem d_M_flatten_13 : decode b_M_flatten 13 = .ok (.aload_n 0, 1) := by decide +kernel
theorem d_M_flatten_14 : decode b_M_flatten 14 = .ok (.getfield 16, 3) := by decide +kernel
theorem d_M_flatten_17 : decode b_M_flatten 17 = .ok (.invokevirtual 85, 3) := by decide +kernel
theorem d_M_flatten_20 : decode b_M_flatten 20 = .ok (.iconst 0, 1) := by decide +kernel
theorem d_M_flatten_21 : decode b_M_flatten 21 = .ok (.istore_n 2, 1) := by decide +kernel
theorem d_M_flatten_22 : decode b_M_flatten 22 = .ok (.iload_n 2, 1) := by decide +kernel
theorem d_M_flatten_23 : decode b_M_flatten 23 = .ok (.aload_n 0, 1) := by decide +kernel
theorem d_M_flatten_24 : decode b_M_flatten 24 = .ok (.getfield 10, 3) := by decide +kernel
theorem d_M_flatten_27 : decode b_M_flatten 27 = .ok (.getfield 42, 3) := by decide +kernel
theorem d_M_flatten_30 : decode b_M_flatten 30 = .ok (.if_icmp .ge 154, 3) := by decide +kernel
theorem d_M_flatten_33 : decode b_M_flatten 33 = .ok (.aload_n 0, 1) := by decide +kernel
theorem d_M_flatten_34 : decode b_M_flatten 34 = .ok (.getfield 10, 3) := by decide +kernel
theorem d_M_flatten_37 : decode b_M_flatten 37 = .ok (.getfield 77, 3) := by decide +kernel
theorem d_M_flatten_40 : decode b_M_flatten 40 = .ok (.iload_n 2, 1) := by decide +kernel
theorem d_M_flatten_41 : decode b_M_flatten 41 = .ok (.baload, 1) := by decide +kernel
theorem d_M_flatten_42 : decode b_M_flatten 42 = .ok (.iconst 2, 1) := by decide +kernel
theorem d_M_flatten_43 : decode b_M_flatten 43 = .ok (.if_icmp .ne 99, 3) := by decide +kernel
theorem d_M_flatten_46 : decode b_M_flatten 46 = .ok (.aload_n 0, 1) := by decide +kernel
theorem d_M_flatten_47 : decode b_M_flatten 47 = .ok (.getfield 16, 3) := by decide +kernel
theorem d_M_flatten_50 : decode b_M_flatten 50 = .ok (.aload_n 0, 1) := by decide +kernel
theorem d_M_flatten_51 : decode b_M_flatten 51 = .ok (.getfield 10, 3) := by decide +kernel
theorem d_M_flatten_54 : decode b_M_flatten 54 = .ok (.iload_n 2, 1) := by decide +kernel
theorem d_M_flatten_55 : decode b_M_flatten 55 = .ok (.iconst 1, 1) := by decide +kernel
theorem d_M_flatten_56 : decode b_M_flatten 56 = .ok (.isub, 1) := by decide +kernel
theorem d_M_flatten_57 : decode b_M_flatten 57 = .ok (.iconst 0, 1) := by decide +kernel
theorem d_M_flatten_58 : decode b_M_flatten 58 = .ok (.invokevirtual 46, 3) := by decide +kernel
theorem d_M_flatten_61 : decode b_M_flatten 61 = .ok (.i2l, 1) := by decide +kernel
theorem d_M_flatten_62 : decode b_M_flatten 62 = .ok (.aload_n 0, 1) := by decide +kernel
theorem d_M_flatten_63 : decode b_M_flatten 63 = .ok (.getfield 10, 3) := by decide +kernel
theorem d_M_flatten_66 : decode b_M_flatten 66 = .ok (.iload_n 2, 1) := by decide +kernel
theorem d_M_flatten_67 : decode b_M_flatten 67 = .ok (.iconst 1, 1) := by decide +kernel
theorem d_M_flatten_68 : decode b_M_flatten 68 = .ok (.isub, 1) := by decide +kernel
theorem d_M_flatten_69 : decode b_M_flatten 69 = .ok (.iconst 1, 1) := by decide +kernel
theorem d_M_flatten_70 : decode b_M_flatten 70 = .ok (.invokevirtual 46, 3) := by decide +kernel
theorem d_M_flatten_73 : decode b_M_flatten 73 = .ok (.i2l, 1) := by decide +kernel
theorem d_M_flatten_74 : decode b_M_flatten 74 = .ok (.aload_n 0, 1) := by decide +kernel
theorem d_M_flatten_75 : decode b_M_flatten 75 = .ok (.getfield 10, 3) := by decide +kernel
theorem d_M_flatten_78 : decode b_M_flatten 78 = .ok (.iload_n 2, 1) := by decide +kernel
theorem d_M_flatten_79 : decode b_M_flatten 79 = .ok (.iconst 2, 1) := by decide +kernel
theorem d_M_flatten_80 : decode b_M_flatten 80 = .ok (.invokevirtual 46, 3) := by decide +kernel
theorem d_M_flatten_83 : decode b_M_flatten 83 = .ok (.i2l, 1) := by decide +kernel
theorem d_M_flatten_84 : decode b_M_flatten 84 = .ok (.aload_n 0, 1) := by decide +kernel
theorem d_M_flatten_85 : decode b_M_flatten 85 = .ok (.getfield 10, 3) := by decide +kernel
theorem d_M_flatten_88 : decode b_M_flatten 88 = .ok (.iload_n 2, 1) := by decide +kernel
theorem d_M_flatten_89 : decode b_M_flatten 89 = .ok (.iconst 3, 1) := by decide +kernel
theorem d_M_flatten_90 : decode b_M_flatten 90 = .ok (.invokevirtual 46, 3) := by decide +kernel
theorem d_M_flatten_93 : decode b_M_flatten 93 = .ok (.i2l, 1) := by decide +kernel
theorem d_M_flatten_94 : decode b_M_flatten 94 = .ok (.aload_n 0, 1) := by decide +kernel
theorem d_M_flatten_95 : decode b_M_flatten 95 = .ok (.getfield 10, 3) := by decide +kernel
theorem d_M_flatten_98 : decode b_M_flatten 98 = .ok (.iload_n 2, 1) := by decide +kernel
theorem d_M_flatten_99 : decode b_M_flatten 99 = .ok (.iconst 4, 1) := by decide +kernel
theorem d_M_flatten_100 : decode b_M_flatten 100 = .ok (.invokevirtual 46, 3) := by decide +kernel
theorem d_M_flatten_103 : decode b_M_flatten 103 = .ok (.i2l, 1) := by decide +kernel
theorem d_M_flatten_104 : decode b_M_flatten 104 = .ok (.aload_n 0, 1) := by decide +kernel
theorem d_M_flatten_105 : decode b_M_flatten 105 = .ok (.getfield 10, 3) := by decide +kernel
theorem d_M_flatten_108 : decode b_M_flatten 108 = .ok (.iload_n 2, 1) := by decide +kernel
theorem d_M_flatten_109 : decode b_M_flatten 109 = .ok (.iconst 5, 1) := by decide +kernel
theorem d_M_flatten_110 : decode b_M_flatten 110 = .ok (.invokevirtual 46, 3) := by decide +kernel
theorem d_M_flatten_113 : decode b_M_flatten 113 = .ok (.i2l, 1) := by decide +kernel
theorem d_M_flatten_114 : decode b_M_flatten 114 = .ok (.aload_n 0, 1) := by decide +kernel
theorem d_M_flatten_115 : decode b_M_flatten 115 = .ok (.getfield 10, 3) := by decide +kernel
theorem d_M_flatten_118 : decode b_M_flatten 118 = .ok (.iload_n 2, 1) := by decide +kernel
theorem d_M_flatten_119 : decode b_M_flatten 119 = .ok (.iconst 0, 1) := by decide +kernel
theorem d_M_flatten_120 : decode b_M_flatten 120 = .ok (.invokevirtual 46, 3) := by decide +kernel
theorem d_M_flatten_123 : decode b_M_flatten 123 = .ok (.i2l, 1) := by decide +kernel
theorem d_M_flatten_124 : decode b_M_flatten 124 = .ok (.aload_n 0, 1) := by decide +kernel
theorem d_M_flatten_125 : decode b_M_flatten 125 = .ok (.getfield 10, 3) := by decide +kernel
theorem d_M_flatten_128 : decode b_M_flatten 128 = .ok (.iload_n 2, 1) := by decide +kernel
theorem d_M_flatten_129 : decode b_M_flatten 129 = .ok (.iconst 1, 1) := by decide +kernel
theorem d_M_flatten_130 : decode b_M_flatten 130 = .ok (.invokevirtual 46, 3) := by decide +kernel
theorem d_M_flatten_133 : decode b_M_flatten 133 = .ok (.i2l, 1) := by decide +kernel
theorem d_M_flatten_134 : decode b_M_flatten 134 = .ok (.iload_n 1, 1) := by decide +kernel
theorem d_M_flatten_135 : decode b_M_flatten 135 = .ok (.iconst 0, 1) := by decide +kernel
theorem d_M_flatten_136 : decode b_M_flatten 136 = .ok (.invokestatic 174, 3) := by decide +kernel
theorem d_M_flatten_139 : decode b_M_flatten 139 = .ok (.goto 39, 3) := by decide +kernel
theorem d_M_flatten_142 : decode b_M_flatten 142 = .ok (.aload_n 0, 1) := by decide +kernel
theorem d_M_flatten_143 : decode b_M_flatten 143 = .ok (.getfield 16, 3) := by decide +kernel
theorem d_M_flatten_146 : decode b_M_flatten 146 = .ok (.aload_n 0, 1) := by decide +kernel
theorem d_M_flatten_147 : decode b_M_flatten 147 = .ok (.getfield 10, 3) := by decide +kernel
theorem d_M_flatten_150 : decode b_M_flatten 150 = .ok (.getfield 77, 3) := by decide +kernel
theorem d_M_flatten_153 : decode b_M_flatten 153 = .ok (.iload_n 2, 1) := by decide +kernel
theorem d_M_flatten_154 : decode b_M_flatten 154 = .ok (.baload, 1) := by decide +kernel
theorem d_M_flatten_155 : decode b_M_flatten 155 = .ok (.aload_n 0, 1) := by decide +kernel
theorem d_M_flatten_156 : decode b_M_flatten 156 = .ok (.getfield 10, 3) := by decide +kernel
theorem d_M_flatten_159 : decode b_M_flatten 159 = .ok (.iload_n 2, 1) := by decide +kernel
theorem d_M_flatten_160 : decode b_M_flatten 160 = .ok (.iconst 0, 1) := by decide +kernel
theorem d_M_flatten_161 : decode b_M_flatten 161 = .ok (.invokevirtual 46, 3) := by decide +kernel
theorem d_M_flatten_164 : decode b_M_flatten 164 = .ok (.i2l, 1) := by decide +kernel
theorem d_M_flatten_165 : decode b_M_flatten 165 = .ok (.aload_n 0, 1) := by decide +kernel
theorem d_M_flatten_166 : decode b_M_flatten 166 = .ok (.getfield 10, 3) := by decide +kernel
theorem d_M_flatten_169 : decode b_M_flatten 169 = .ok (.iload_n 2, 1) := by decide +kernel
theorem d_M_flatten_170 : decode b_M_flatten 170 = .ok (.iconst 1, 1) := by decide +kernel
theorem d_M_flatten_171 : decode b_M_flatten 171 = .ok (.invokevirtual 46, 3) := by decide +kernel
theorem d_M_flatten_174 : decode b_M_flatten 174 = .ok (.i2l, 1) := by decide +kernel
theorem d_M_flatten_175 : decode b_M_flatten 175 = .ok (.invokevirtual 69, 3) := by decide +kernel
theorem d_M_flatten_178 : decode b_M_flatten 178 = .ok (.iinc 2 1, 3) := by decide +kernel
theorem d_M_flatten_181 : decode b_M_flatten 181 = .ok (.goto (-159), 3) := by decide +kernel
theorem d_M_flatten_184 : decode b_M_flatten 184 = .ok (.aload_n 0, 1) := by decide +kernel
theorem d_M_flatten_185 : decode b_M_flatten 185 = .ok (.invokevirtual 58, 3) := by decide +kernel
theorem d_M_flatten_188 : decode b_M_flatten 188 = .ok (.ireturn, 1) := by decide +kernel
theorem d_M_parts_0 : decode b_M_parts 0 = .ok (.aload_n 0, 1) := by decide +kernel
theorem d_M_parts_1 : decode b_M_parts 1 = .ok (.getfield 10, 3) := by decide +kernel
theorem d_M_parts_4 : decode b_M_parts 4 = .ok (.getfield 42, 3) := by decide +kernel
theorem d_M_parts_7 : decode b_M_parts 7 = .ok (.ireturn, 1) := by decide +kernel
theorem d_M_kind_0 : decode b_M_kind 0 = .ok (.iload_n 1, 1) := by decide +kernel
theorem d_M_kind_1 : decode b_M_kind 1 = .ok (.ifCond .lt 26, 3) := by decide +kernel
theorem d_M_kind_4 : decode b_M_kind 4 = .ok (.iload_n 1, 1) := by decide +kernel
theorem d_M_kind_5 : decode b_M_kind 5 = .ok (.aload_n 0, 1) := by decide +kernel
theorem d_M_kind_6 : decode b_M_kind 6 = .ok (.getfield 10, 3) := by decide +kernel
theorem d_M_kind_9 : decode b_M_kind 9 = .ok (.getfield 42, 3) := by decide +kernel
theorem d_M_kind_12 : decode b_M_kind 12 = .ok (.if_icmp .ge 15, 3) := by decide +kernel
theorem d_M_kind_15 : decode b_M_kind 15 = .ok (.aload_n 0, 1) := by decide +kernel
theorem d_M_kind_16 : decode b_M_kind 16 = .ok (.getfield 10, 3) := by decide +kernel
theorem d_M_kind_19 : decode b_M_kind 19 = .ok (.getfield 77, 3) := by decide +kernel
theorem d_M_kind_22 : decode b_M_kind 22 = .ok (.iload_n 1, 1) := by decide +kernel
theorem d_M_kind_23 : decode b_M_kind 23 = .ok (.baload, 1) := by decide +kernel
theorem d_M_kind_24 : decode b_M_kind 24 = .ok (.goto 4, 3) := by decide +kernel
theorem d_M_kind_27 : decode b_M_kind 27 = .ok (.iconst (-1), 1) := by decide +kernel
theorem d_M_kind_28 : decode b_M_kind 28 = .ok (.ireturn, 1) := by decide +kernel
theorem d_M_place_0 : decode b_M_place 0 = .ok (.iload_n 1, 1) := by decide +kernel
theorem d_M_place_1 : decode b_M_place 1 = .ok (.ifCond .lt 41, 3) := by decide +kernel
theorem d_M_place_4 : decode b_M_place 4 = .ok (.iload_n 1, 1) := by decide +kernel
theorem d_M_place_5 : decode b_M_place 5 = .ok (.aload_n 0, 1) := by decide +kernel
theorem d_M_place_6 : decode b_M_place 6 = .ok (.getfield 10, 3) := by decide +kernel
theorem d_M_place_9 : decode b_M_place 9 = .ok (.getfield 42, 3) := by decide +kernel
theorem d_M_place_12 : decode b_M_place 12 = .ok (.if_icmp .ge 30, 3) := by decide +kernel
theorem d_M_place_15 : decode b_M_place 15 = .ok (.iload_n 2, 1) := by decide +kernel
theorem d_M_place_16 : decode b_M_place 16 = .ok (.ifCond .lt 26, 3) := by decide +kernel
theorem d_M_place_19 : decode b_M_place 19 = .ok (.iload_n 2, 1) := by decide +kernel
theorem d_M_place_20 : decode b_M_place 20 = .ok (.iconst 5, 1) := by decide +kernel
theorem d_M_place_21 : decode b_M_place 21 = .ok (.if_icmp .gt 21, 3) := by decide +kernel
theorem d_M_place_24 : decode b_M_place 24 = .ok (.iload_n 2, 1) := by decide +kernel
theorem d_M_place_25 : decode b_M_place 25 = .ok (.iconst 1, 1) := by decide +kernel
theorem d_M_place_26 : decode b_M_place 26 = .ok (.if_icmp .le 18, 3) := by decide +kernel
theorem d_M_place_29 : decode b_M_place 29 = .ok (.aload_n 0, 1) := by decide +kernel
theorem d_M_place_30 : decode b_M_place 30 = .ok (.getfield 10, 3) := by decide +kernel
theorem d_M_place_33 : decode b_M_place 33 = .ok (.getfield 77, 3) := by decide +kernel
theorem d_M_place_36 : decode b_M_place 36 = .ok (.iload_n 1, 1) := by decide +kernel
theorem d_M_place_37 : decode b_M_place 37 = .ok (.baload, 1) := by decide +kernel
theorem d_M_place_38 : decode b_M_place 38 = .ok (.iconst 2, 1) := by decide +kernel
theorem d_M_place_39 : decode b_M_place 39 = .ok (.if_icmp .eq 5, 3) := by decide +kernel
theorem d_M_place_42 : decode b_M_place 42 = .ok (.iconst 0, 1) := by decide +kernel
theorem d_M_place_43 : decode b_M_place 43 = .ok (.ireturn, 1) := by decide +kernel
theorem d_M_place_44 : decode b_M_place 44 = .ok (.aload_n 0, 1) := by decide +kernel
theorem d_M_place_45 : decode b_M_place 45 = .ok (.getfield 10, 3) := by decide +kernel
theorem d_M_place_48 : decode b_M_place 48 = .ok (.iload_n 1, 1) := by decide +kernel
theorem d_M_place_49 : decode b_M_place 49 = .ok (.iload_n 2, 1) := by decide +kernel
theorem d_M_place_50 : decode b_M_place 50 = .ok (.invokevirtual 46, 3) := by decide +kernel
theorem d_M_place_53 : decode b_M_place 53 = .ok (.ireturn, 1) := by decide +kernel
theorem d_M_bound_0 : decode b_M_bound 0 = .ok (.aload_n 0, 1) := by decide +kernel
theorem d_M_bound_1 : decode b_M_bound 1 = .ok (.getfield 10, 3) := by decide +kernel
theorem d_M_bound_4 : decode b_M_bound 4 = .ok (.getfield 42, 3) := by decide +kernel
theorem d_M_bound_7 : decode b_M_bound 7 = .ok (.ifCond .eq 12, 3) := by decide +kernel
theorem d_M_bound_10 : decode b_M_bound 10 = .ok (.iload_n 1, 1) := by decide +kernel
theorem d_M_bound_11 : decode b_M_bound 11 = .ok (.ifCond .lt 8, 3) := by decide +kernel
theorem d_M_bound_14 : decode b_M_bound 14 = .ok (.iload_n 1, 1) := by decide +kernel
theorem d_M_bound_15 : decode b_M_bound 15 = .ok (.iconst 3, 1) := by decide +kernel
theorem d_M_bound_16 : decode b_M_bound 16 = .ok (.if_icmp .le 5, 3) := by decide +kernel
theorem d_M_bound_19 : decode b_M_bound 19 = .ok (.iconst 0, 1) := by decide +kernel
theorem d_M_bound_20 : decode b_M_bound 20 = .ok (.ireturn, 1) := by decide +kernel
theorem d_M_bound_21 : decode b_M_bound 21 = .ok (.aload_n 0, 1) := by decide +kernel
theorem d_M_bound_22 : decode b_M_bound 22 = .ok (.getfield 10, 3) := by decide +kernel
theorem d_M_bound_25 : decode b_M_bound 25 = .ok (.iconst 0, 1) := by decide +kernel
theorem d_M_bound_26 : decode b_M_bound 26 = .ok (.iload_n 1, 1) := by decide +kernel
theorem d_M_bound_27 : decode b_M_bound 27 = .ok (.iconst 2, 1) := by decide +kernel
theorem d_M_bound_28 : decode b_M_bound 28 = .ok (.irem, 1) := by decide +kernel
theorem d_M_bound_29 : decode b_M_bound 29 = .ok (.invokevirtual 46, 3) := by decide +kernel
theorem d_M_bound_32 : decode b_M_bound 32 = .ok (.istore_n 2, 1) := by decide +kernel
theorem d_M_bound_33 : decode b_M_bound 33 = .ok (.iconst 0, 1) := by decide +kernel
theorem d_M_bound_34 : decode b_M_bound 34 = .ok (.istore_n 3, 1) := by decide +kernel
theorem d_M_bound_35 : decode b_M_bound 35 = .ok (.iload_n 3, 1) := by decide +kernel
theorem d_M_bound_36 : decode b_M_bound 36 = .ok (.aload_n 0, 1) := by decide +kernel
theorem d_M_bound_37 : decode b_M_bound 37 = .ok (.getfield 10, 3) := by decide +kernel
theorem d_M_bound_40 : decode b_M_bound 40 = .ok (.getfield 42, 3) := by decide +kernel
theorem d_M_bound_43 : decode b_M_bound 43 = .ok (.if_icmp .ge 89, 3) := by decide +kernel
theorem d_M_bound_46 : decode b_M_bound 46 = .ok (.iload_n 1, 1) := by decide +kernel
theorem d_M_bound_47 : decode b_M_bound 47 = .ok (.iconst 2, 1) := by decide +kernel
theorem d_M_bound_48 : decode b_M_bound 48 = .ok (.irem, 1) := by decide +kernel
theorem d_M_bound_49 : decode b_M_bound 49 = .ok (.istore 4, 2) := by decide +kernel
theorem d_M_bound_51 : decode b_M_bound 51 = .ok (.iload 4, 2) := by decide +kernel
theorem d_M_bound_53 : decode b_M_bound 53 = .ok (.aload_n 0, 1) := by decide +kernel
theorem d_M_bound_54 : decode b_M_bound 54 = .ok (.getfield 10, 3) := by decide +kernel
theorem d_M_bound_57 : decode b_M_bound 57 = .ok (.getfield 77, 3) := by decide +kernel
theorem d_M_bound_60 : decode b_M_bound 60 = .ok (.iload_n 3, 1) := by decide +kernel
theorem d_M_bound_61 : decode b_M_bound 61 = .ok (.baload, 1) := by decide +kernel
theorem d_M_bound_62 : decode b_M_bound 62 = .ok (.iconst 2, 1) := by decide +kernel
theorem d_M_bound_63 : decode b_M_bound 63 = .ok (.if_icmp .ne 8, 3) := by decide +kernel
theorem d_M_bound_66 : decode b_M_bound 66 = .ok (.bipush 6, 2) := by decide +kernel
theorem d_M_bound_68 : decode b_M_bound 68 = .ok (.goto 4, 3) := by decide +kernel
theorem d_M_bound_71 : decode b_M_bound 71 = .ok (.iconst 2, 1) := by decide +kernel
theorem d_M_bound_72 : decode b_M_bound 72 = .ok (.if_icmp .ge 54, 3) := by decide +kernel
theorem d_M_bound_75 : decode b_M_bound 75 = .ok (.aload_n 0, 1) := by decide +kernel
theorem d_M_bound_76 : decode b_M_bound 76 = .ok (.getfield 10, 3) := by decide +kernel
theorem d_M_bound_79 : decode b_M_bound 79 = .ok (.iload_n 3, 1) := by decide +kernel
theorem d_M_bound_80 : decode b_M_bound 80 = .ok (.iload 4, 2) := by decide +kernel
theorem d_M_bound_82 : decode b_M_bound 82 = .ok (.invokevirtual 46, 3) := by decide +kernel
theorem d_M_bound_85 : decode b_M_bound 85 = .ok (.istore 5, 2) := by decide +kernel
theorem d_M_bound_87 : decode b_M_bound 87 = .ok (.iload_n 1, 1) := by decide +kernel
theorem d_M_bound_88 : decode b_M_bound 88 = .ok (.iconst 2, 1) := by decide +kernel
theorem d_M_bound_89 : decode b_M_bound 89 = .ok (.if_icmp .ge 18, 3) := by decide +kernel
theorem d_M_bound_92 : decode b_M_bound 92 = .ok (.iload 5, 2) := by decide +kernel
theorem d_M_bound_94 : decode b_M_bound 94 = .ok (.iload_n 2, 1) := by decide +kernel
theorem d_M_bound_95 : decode b_M_bound 95 = .ok (.if_icmp .ge 8, 3) := by decide +kernel
theorem d_M_bound_98 : decode b_M_bound 98 = .ok (.iload 5, 2) := by decide +kernel
theorem d_M_bound_100 : decode b_M_bound 100 = .ok (.goto 19, 3) := by decide +kernel
theorem d_M_bound_103 : decode b_M_bound 103 = .ok (.iload_n 2, 1) := by decide +kernel
theorem d_M_bound_104 : decode b_M_bound 104 = .ok (.goto 15, 3) := by decide +kernel
theorem d_M_bound_107 : decode b_M_bound 107 = .ok (.iload 5, 2) := by decide +kernel
theorem d_M_bound_109 : decode b_M_bound 109 = .ok (.iload_n 2, 1) := by decide +kernel
theorem d_M_bound_110 : decode b_M_bound 110 = .ok (.if_icmp .le 8, 3) := by decide +kernel
theorem d_M_bound_113 : decode b_M_bound 113 = .ok (.iload 5, 2) := by decide +kernel
theorem d_M_bound_115 : decode b_M_bound 115 = .ok (.goto 4, 3) := by decide +kernel
theorem d_M_bound_118 : decode b_M_bound 118 = .ok (.iload_n 2, 1) := by decide +kernel
theorem d_M_bound_119 : decode b_M_bound 119 = .ok (.istore_n 2, 1) := by decide +kernel
theorem d_M_bound_120 : decode b_M_bound 120 = .ok (.iinc 4 2, 3) := by decide +kernel
theorem d_M_bound_123 : decode b_M_bound 123 = .ok (.goto (-72), 3) := by decide +kernel
theorem d_M_bound_126 : decode b_M_bound 126 = .ok (.iinc 3 1, 3) := by decide +kernel
theorem d_M_bound_129 : decode b_M_bound 129 = .ok (.goto (-94), 3) := by decide +kernel
theorem d_M_bound_132 : decode b_M_bound 132 = .ok (.iload_n 2, 1) := by decide +kernel
theorem d_M_bound_133 : decode b_M_bound 133 = .ok (.ireturn, 1) := by decide +kernel
end
section
/-! what the reference answers, over lists of parts -/
def setl (ps : List Pt) (d : DS) : Int32 × List Pt := if d.2.2 then (-4, ps) else if d.2.1 then (-3, ps) else (nI d.1.length, d.1)
section SETL
variable {ps l : List Pt} {d : DS} {fu fa : Bool}
theorem setl_far (h : (l, fu, fa) = d) (h1 : fa = true) : setl ps d = (-4, ps) := by subst h; subst h1; rfl
theorem setl_full (h : (l, fu, fa) = d) (h1 : fa = false) (h2 : fu = true) : setl ps d = (-3, ps) := by subst h; subst h1; subst h2; rfl
theorem setl_ok (h : (l, fu, fa) = d) (h1 : fa = false) (h2 : fu = false) : setl ps d = (nI l.length, l) := by subst h; subst h1; subst h2; rfl
end SETL
def rMove (ps : List Pt) (x y : Int32) : Int32 × List Pt := setl ps (beginD (ps, false, false) x.toInt64 y.toInt64)
def rLine (ps : List Pt) (x y : Int32) : Int32 × List Pt := if ps.length = 0 then (-2, ps) else setl ps (addD (openD (ps, false, false)) 1 x.toInt64 y.toInt64 0 0 0 0)
def rCurve (ps : List Pt) (x1 y1 x2 y2 x3 y3 : Int32) : Int32 × List Pt := if ps.length = 0 then (-2, ps) else setl ps (addD (openD (ps, false, false)) 2 x3.toInt64 y3.toInt64 x1.toInt64 y1.toInt64 x2.toInt64 y2.toInt64)
/-- the latest beginning -/
def lb (ps : List Pt) : Pt := (ps.reverse.find? (fun q => decide (q.1 = 0))).getD (0, 0, 0, 0, 0, 0, 0)
def rClose (ps : List Pt) : Int32 × List Pt := if ps.length = 0 ∨ lk ps = 3 then (nI ps.length, ps) else setl ps (addD (ps, false, false) 3 (lb ps).2.1.toInt64 (lb ps).2.2.1.toInt64 0 0 0 0)
theorem lb_n {n : Nat} {K P : Nat → Int32} {r : Nat} (hr : r < n) (h0 : K r = 0) (hj : ∀ j, r < j → j < n → ¬ K j = 0) : lb (lst n K P) = pt K P r := by
  induction n with
  | zero => omega
  | succ n ih =>
    unfold lb
    rw [lst_succ, List.reverse_append]
    by_cases h : r = n
    · subst h
      simp [pt, h0]
    · have hn : ¬ K n = 0 := hj n (by omega) (by omega)
      have h1 := ih (by omega) (fun j h1 h2 => hj j h1 (by omega))
      unfold lb at h1
      simp only [List.reverse_singleton, List.singleton_append]
      rw [List.find?_cons_of_neg (by simp [pt, hn])]
      exact h1
def rClear (ps : List Pt) : Int32 × List Pt := (nI ps.length, [])
end
section
set_option maxHeartbeats 4000000 in
set_option maxRecDepth 100000 in
/-- settle(): the draft becomes the path, unless it is far or full -/
theorem c_M_settle (l : Launch) (D : va_G) (cI cB cJ : ClassId) (qQ : Nat) (hm : Nat) (a : Nat) (b : Nat) (qa : Nat) (qu : Nat) (qb : Nat) (qh : Nat) (qm : Nat) (qk : Nat) (qp : Nat) (n : Nat) (K : Nat → Int32) (P : Nat → Int32) (fu : Bool) (fa : Bool) (qk2 : Nat) (qp2 : Nat) (n2 : Nat) (K2 : Nat → Int32) (P2 : Nat → Int32) (fu2 : Bool) (fa2 : Bool)  : ct l D cl [(cI, .int), (cB, .byte), (cJ, .long)] (amb qQ) y_M_settle w_M_settle 0 0 (0) (0) [.ref hm] [(hm, .inr (1, [.ref a, .ref b, .ref qa, .ref qu, .ref qb, .ref qh, .ref qm])), (a, .inr (6, [.ref qk, .ref qp, .int (nI n), .int (bz fu), .int (bz fa)])), (qk, .inl (cB, 3000, .inl K)), (qp, .inl (cI, 18000, .inl P)), (b, .inr (6, [.ref qk2, .ref qp2, .int (nI n2), .int (bz fu2), .int (bz fa2)])), (qk2, .inl (cB, 3000, .inl K2)), (qp2, .inl (cI, 18000, .inl P2))] (fun u_ : Int32 × Nat × Nat => match u_ with | (r, a', b') => ((fa2 = true) ∧ (-4) = r ∧ a = a' ∧ b = b') ∨ ((fa2 = false) ∧ (fu2 = true) ∧ (-3) = r ∧ a = a' ∧ b = b') ∨ ((fa2 = false) ∧ (fu2 = false) ∧ nI n2 = r ∧ b = a' ∧ a = b')) (fun u_ : Int32 × Nat × Nat => match u_ with | (r, a', b') => some (.int r)) (fun u_ : Int32 × Nat × Nat => match u_ with | (r, a', b') => [(hm, .inr (1, [.ref a', .ref b', .ref qa, .ref qu, .ref qb, .ref qh, .ref qm])), (a, .inr (6, [.ref qk, .ref qp, .int (nI n), .int (bz fu), .int (bz fa)])), (qk, .inl (cB, 3000, .inl K)), (qp, .inl (cI, 18000, .inl P)), (b, .inr (6, [.ref qk2, .ref qp2, .int (nI n2), .int (bz fu2), .int (bz fa2)])), (qk2, .inl (cB, 3000, .inl K2)), (qp2, .inl (cI, 18000, .inl P2))]) := by
  refine ct_ofW (cc := b_M_settle) (maxL := 2) (ret := (some .int)) (by decide) rfl (Nat.le_of_ble_eq_true rfl) ?_
  intro p e R s m args below meth c A Q ls hx hb hr hml hts hown hlocks hname hRf hRc hRs hRl hQ hK hP hD hS hA hM hl
  have hl : lv_has ls 2 [(0, .ref hm)] := hl
  refine lv_aload_n hx hb d_M_settle_0 rfl (lv_at hl 0 rfl) ?_
  refine va_get (D := D) (ci := 1) (v := .ref b) (C := R_M) (T := T_M) (N := 7) hx hb hts (ui_M _) hown hK hP 0 rfl rfl 1 (by decide) (hts _ (gwc gw_529)) (fun _ h9 => h9) rfl d_M_settle_1 ?_
  refine va_getN (D := D) (ci := 6) (v := .int (bz fa2)) (C := R_MPath) (T := T_MPath) (N := 5) hx hb hts (ui_MPath _) hown hK hP 4 rfl rfl 4 (by decide) ((amb_nw_13 hM).use rfl) (fun _ h9 => h9) rfl d_M_settle_4 ?_
  refine bb_eq (tgt := 13) hx hb d_M_settle_7 (by decide) (fun c_1 => ?_) (fun c_1 => ?_)
  · skip
    refine lv_aload_n hx hb d_M_settle_13 rfl (lv_at hl 0 rfl) ?_
    refine va_get (D := D) (ci := 1) (v := .ref b) (C := R_M) (T := T_M) (N := 7) hx hb hts (ui_M _) hown hK hP 0 rfl rfl 1 (by decide) (hts _ (gwc gw_529)) (fun _ h9 => h9) rfl d_M_settle_14 ?_
    refine va_getN (D := D) (ci := 6) (v := .int (bz fu2)) (C := R_MPath) (T := T_MPath) (N := 5) hx hb hts (ui_MPath _) hown hK hP 4 rfl rfl 3 (by decide) ((amb_nw_12 hM).use rfl) (fun _ h9 => h9) rfl d_M_settle_17 ?_
    refine bb_eq (tgt := 26) hx hb d_M_settle_20 (by decide) (fun c_2 => ?_) (fun c_2 => ?_)
    · skip
      refine lv_aload_n hx hb d_M_settle_26 rfl (lv_at hl 0 rfl) ?_
      refine va_get (D := D) (ci := 1) (v := .ref a) (C := R_M) (T := T_M) (N := 7) hx hb hts (ui_M _) hown hK hP 0 rfl rfl 0 (by decide) (hts _ (gwc gw_528)) (fun _ h9 => h9) rfl d_M_settle_27 ?_
      refine lv_astore_n (lv' := [(1, .ref a), (0, .ref hm)]) hx hb d_M_settle_30 rfl hl (by decide) rfl (fun ls hl => ?_)
      refine lv_aload_n hx hb d_M_settle_31 rfl (lv_at hl 1 rfl) ?_
      refine lv_aload_n hx hb d_M_settle_32 rfl (lv_at hl 1 rfl) ?_
      refine va_get (D := D) (ci := 1) (v := .ref b) (C := R_M) (T := T_M) (N := 7) hx hb hts (ui_M _) hown hK hP 0 rfl rfl 1 (by decide) (hts _ (gwc gw_529)) (fun _ h9 => h9) rfl d_M_settle_33 ?_
      refine va_put (D := D) (ci := 1) (v := .ref b) (ty := (.object "CurvePathsModel$Path")) (C := R_M) (T := T_M) (N := 7) hx hb hts (ui_M _) t_M tk_M nk_M hown hK hP hD hS 0 rfl rfl 0 (by decide) (hts _ (gwc gw_528)) (fun _ h9 => h9) rfl (by decide +kernel) rfl rfl (Nat.le_of_ble_eq_true rfl) d_M_settle_36 (fun H locs hP hD hS => ?_)
      have hP : va_P D cl [(hm, .inr (1, [.ref b, .ref b, .ref qa, .ref qu, .ref qb, .ref qh, .ref qm])), (a, .inr (6, [.ref qk, .ref qp, .int (nI n), .int (bz fu), .int (bz fa)])), (qk, .inl (cB, 3000, .inl K)), (qp, .inl (cI, 18000, .inl P)), (b, .inr (6, [.ref qk2, .ref qp2, .int (nI n2), .int (bz fu2), .int (bz fa2)])), (qk2, .inl (cB, 3000, .inl K2)), (qp2, .inl (cI, 18000, .inl P2))] H := hP
      have hD : va_D A [(hm, .inr (1, [.ref b, .ref b, .ref qa, .ref qu, .ref qb, .ref qh, .ref qm])), (a, .inr (6, [.ref qk, .ref qp, .int (nI n), .int (bz fu), .int (bz fa)])), (qk, .inl (cB, 3000, .inl K)), (qp, .inl (cI, 18000, .inl P)), (b, .inr (6, [.ref qk2, .ref qp2, .int (nI n2), .int (bz fu2), .int (bz fa2)])), (qk2, .inl (cB, 3000, .inl K2)), (qp2, .inl (cI, 18000, .inl P2))] := hD
      refine lv_aload_n hx hb d_M_settle_39 rfl (lv_at hl 1 rfl) ?_
      refine lv_aload_n hx hb d_M_settle_40 rfl (lv_at hl 0 rfl) ?_
      refine va_put (D := D) (ci := 1) (v := .ref a) (ty := (.object "CurvePathsModel$Path")) (C := R_M) (T := T_M) (N := 7) hx hb hts (ui_M _) t_M tk_M nk_M hown hK hP hD hS 0 rfl rfl 1 (by decide) (hts _ (gwc gw_529)) (fun _ h9 => h9) rfl (by decide +kernel) rfl rfl (Nat.le_of_ble_eq_true rfl) d_M_settle_41 (fun H locs hP hD hS => ?_)
      have hP : va_P D cl [(hm, .inr (1, [.ref b, .ref a, .ref qa, .ref qu, .ref qb, .ref qh, .ref qm])), (a, .inr (6, [.ref qk, .ref qp, .int (nI n), .int (bz fu), .int (bz fa)])), (qk, .inl (cB, 3000, .inl K)), (qp, .inl (cI, 18000, .inl P)), (b, .inr (6, [.ref qk2, .ref qp2, .int (nI n2), .int (bz fu2), .int (bz fa2)])), (qk2, .inl (cB, 3000, .inl K2)), (qp2, .inl (cI, 18000, .inl P2))] H := hP
      have hD : va_D A [(hm, .inr (1, [.ref b, .ref a, .ref qa, .ref qu, .ref qb, .ref qh, .ref qm])), (a, .inr (6, [.ref qk, .ref qp, .int (nI n), .int (bz fu), .int (bz fa)])), (qk, .inl (cB, 3000, .inl K)), (qp, .inl (cI, 18000, .inl P)), (b, .inr (6, [.ref qk2, .ref qp2, .int (nI n2), .int (bz fu2), .int (bz fa2)])), (qk2, .inl (cB, 3000, .inl K2)), (qp2, .inl (cI, 18000, .inl P2))] := hD
      refine lv_aload_n hx hb d_M_settle_44 rfl (lv_at hl 1 rfl) ?_
      refine va_get (D := D) (ci := 1) (v := .ref b) (C := R_M) (T := T_M) (N := 7) hx hb hts (ui_M _) hown hK hP 0 rfl rfl 0 (by decide) (hts _ (gwc gw_528)) (fun _ h9 => h9) rfl d_M_settle_45 ?_
      refine va_getN (D := D) (ci := 6) (v := .int (nI n2)) (C := R_MPath) (T := T_MPath) (N := 5) hx hb hts (ui_MPath _) hown hK hP 4 rfl rfl 2 (by decide) ((amb_nw_11 hM).use rfl) (fun _ h9 => h9) rfl d_M_settle_48 ?_
      exact ct_reti hQ hx hb hr hlocks hP hD hS (nI n2, b, a) [(hm, .inr (1, [.ref b, .ref a, .ref qa, .ref qu, .ref qb, .ref qh, .ref qm])), (a, .inr (6, [.ref qk, .ref qp, .int (nI n), .int (bz fu), .int (bz fa)])), (qk, .inl (cB, 3000, .inl K)), (qp, .inl (cI, 18000, .inl P)), (b, .inr (6, [.ref qk2, .ref qp2, .int (nI n2), .int (bz fu2), .int (bz fa2)])), (qk2, .inl (cB, 3000, .inl K2)), (qp2, .inl (cI, 18000, .inl P2))] [0, 1, 2, 3, 4, 5, 6] (rfl) (Or.inr (Or.inr (⟨c_1, c_2, rfl, rfl, rfl⟩))) (rfl) rfl rfl (by omega) (by omega) d_M_settle_51
    · skip
      refine lv_bipush (v := (-3)) hx hb d_M_settle_23 (by decide) ?_
      exact ct_reti hQ hx hb hr hlocks hP hD hS ((-3), a, b) [(hm, .inr (1, [.ref a, .ref b, .ref qa, .ref qu, .ref qb, .ref qh, .ref qm])), (a, .inr (6, [.ref qk, .ref qp, .int (nI n), .int (bz fu), .int (bz fa)])), (qk, .inl (cB, 3000, .inl K)), (qp, .inl (cI, 18000, .inl P)), (b, .inr (6, [.ref qk2, .ref qp2, .int (nI n2), .int (bz fu2), .int (bz fa2)])), (qk2, .inl (cB, 3000, .inl K2)), (qp2, .inl (cI, 18000, .inl P2))] [0, 1, 2, 3, 4, 5, 6] (rfl) (Or.inr (Or.inl ⟨c_1, c_2, rfl, rfl, rfl⟩)) (rfl) rfl rfl (by omega) (by omega) d_M_settle_25
  · skip
    refine lv_bipush (v := (-4)) hx hb d_M_settle_10 (by decide) ?_
    exact ct_reti hQ hx hb hr hlocks hP hD hS ((-4), a, b) [(hm, .inr (1, [.ref a, .ref b, .ref qa, .ref qu, .ref qb, .ref qh, .ref qm])), (a, .inr (6, [.ref qk, .ref qp, .int (nI n), .int (bz fu), .int (bz fa)])), (qk, .inl (cB, 3000, .inl K)), (qp, .inl (cI, 18000, .inl P)), (b, .inr (6, [.ref qk2, .ref qp2, .int (nI n2), .int (bz fu2), .int (bz fa2)])), (qk2, .inl (cB, 3000, .inl K2)), (qp2, .inl (cI, 18000, .inl P2))] [0, 1, 2, 3, 4, 5, 6] (rfl) (Or.inl ⟨c_1, rfl, rfl, rfl⟩) (rfl) rfl rfl (by omega) (by omega) d_M_settle_12
set_option maxHeartbeats 4000000 in
set_option maxRecDepth 100000 in
/-- isPoint() -/
theorem c_M_isPoint (l : Launch) (D : va_G) (cI cB cJ : ClassId) (qQ : Nat) (hm : Nat) (a : Nat) (b : Nat) (qa : Nat) (qu : Nat) (qb : Nat) (qh : Nat) (qm : Nat) (qk : Nat) (qp : Nat) (n : Nat) (K : Nat → Int32) (P : Nat → Int32) (fu : Bool) (fa : Bool) (hn : n ≤ 3000) : ct l D cl [(cI, .int), (cB, .byte), (cJ, .long)] (amb qQ) y_M_isPoint w_M_isPoint 0 0 (0) (0) [.ref hm] [(hm, .inr (1, [.ref a, .ref b, .ref qa, .ref qu, .ref qb, .ref qh, .ref qm])), (a, .inr (6, [.ref qk, .ref qp, .int (nI n), .int (bz fu), .int (bz fa)])), (qk, .inl (cB, 3000, .inl K)), (qp, .inl (cI, 18000, .inl P))] (fun _ : Unit => True) (fun _ : Unit => some (.int (bz (decide (0 < n))))) (fun _ : Unit => [(hm, .inr (1, [.ref a, .ref b, .ref qa, .ref qu, .ref qb, .ref qh, .ref qm])), (a, .inr (6, [.ref qk, .ref qp, .int (nI n), .int (bz fu), .int (bz fa)])), (qk, .inl (cB, 3000, .inl K)), (qp, .inl (cI, 18000, .inl P))]) := by
  refine ct_ofW (cc := b_M_isPoint) (maxL := 1) (ret := (some .boolean)) (by decide) rfl (Nat.le_of_ble_eq_true rfl) ?_
  intro p e R s m args below meth c A Q ls hx hb hr hml hts hown hlocks hname hRf hRc hRs hRl hQ hK hP hD hS hA hM hl
  have hl : lv_has ls 1 [(0, .ref hm)] := hl
  refine lv_aload_n hx hb d_M_isPoint_0 rfl (lv_at hl 0 rfl) ?_
  refine va_get (D := D) (ci := 1) (v := .ref a) (C := R_M) (T := T_M) (N := 7) hx hb hts (ui_M _) hown hK hP 0 rfl rfl 0 (by decide) (hts _ (gwc gw_528)) (fun _ h9 => h9) rfl d_M_isPoint_1 ?_
  refine va_getN (D := D) (ci := 6) (v := .int (nI n)) (C := R_MPath) (T := T_MPath) (N := 5) hx hb hts (ui_MPath _) hown hK hP 1 rfl rfl 2 (by decide) ((amb_nw_11 hM).use rfl) (fun _ h9 => h9) rfl d_M_isPoint_4 ?_
  refine bz_le (a1 := n) (tgt := 14) hx hb (by omega) d_M_isPoint_7 (by decide) (fun c_1 => ?_) (fun c_1 => ?_)
  · skip
    refine lv_iconst (v := 0) hx hb d_M_isPoint_14 (by decide) ?_
    exact ct_retz hQ hx hb hr hlocks hP hD hS () [(hm, .inr (1, [.ref a, .ref b, .ref qa, .ref qu, .ref qb, .ref qh, .ref qm])), (a, .inr (6, [.ref qk, .ref qp, .int (nI n), .int (bz fu), .int (bz fa)])), (qk, .inl (cB, 3000, .inl K)), (qp, .inl (cI, 18000, .inl P))] [0, 1, 2, 3] (by simp [bz, c_1]) (trivial) (rfl) rfl rfl (by decide) (by omega) (by omega) d_M_isPoint_15
  · skip
    refine lv_iconst (v := 1) hx hb d_M_isPoint_10 (by decide) ?_
    refine lv_goto (tgt := 15) hx hb d_M_isPoint_11 (by decide) ?_
    exact ct_retz hQ hx hb hr hlocks hP hD hS () [(hm, .inr (1, [.ref a, .ref b, .ref qa, .ref qu, .ref qb, .ref qh, .ref qm])), (a, .inr (6, [.ref qk, .ref qp, .int (nI n), .int (bz fu), .int (bz fa)])), (qk, .inl (cB, 3000, .inl K)), (qp, .inl (cI, 18000, .inl P))] [0, 1, 2, 3] (by simp [bz, c_1]) (trivial) (rfl) rfl rfl (by decide) (by omega) (by omega) d_M_isPoint_15
set_option maxHeartbeats 4000000 in
set_option maxRecDepth 100000 in
/-- parts() -/
theorem c_M_parts (l : Launch) (D : va_G) (cI cB cJ : ClassId) (qQ : Nat) (hm : Nat) (a : Nat) (b : Nat) (qa : Nat) (qu : Nat) (qb : Nat) (qh : Nat) (qm : Nat) (qk : Nat) (qp : Nat) (n : Nat) (K : Nat → Int32) (P : Nat → Int32) (fu : Bool) (fa : Bool)  : ct l D cl [(cI, .int), (cB, .byte), (cJ, .long)] (amb qQ) y_M_parts w_M_parts 0 0 (0) (0) [.ref hm] [(hm, .inr (1, [.ref a, .ref b, .ref qa, .ref qu, .ref qb, .ref qh, .ref qm])), (a, .inr (6, [.ref qk, .ref qp, .int (nI n), .int (bz fu), .int (bz fa)])), (qk, .inl (cB, 3000, .inl K)), (qp, .inl (cI, 18000, .inl P))] (fun _ : Unit => True) (fun _ : Unit => some (.int (nI n))) (fun _ : Unit => [(hm, .inr (1, [.ref a, .ref b, .ref qa, .ref qu, .ref qb, .ref qh, .ref qm])), (a, .inr (6, [.ref qk, .ref qp, .int (nI n), .int (bz fu), .int (bz fa)])), (qk, .inl (cB, 3000, .inl K)), (qp, .inl (cI, 18000, .inl P))]) := by
  refine ct_ofW (cc := b_M_parts) (maxL := 1) (ret := (some .int)) (by decide) rfl (Nat.le_of_ble_eq_true rfl) ?_
  intro p e R s m args below meth c A Q ls hx hb hr hml hts hown hlocks hname hRf hRc hRs hRl hQ hK hP hD hS hA hM hl
  have hl : lv_has ls 1 [(0, .ref hm)] := hl
  refine lv_aload_n hx hb d_M_parts_0 rfl (lv_at hl 0 rfl) ?_
  refine va_get (D := D) (ci := 1) (v := .ref a) (C := R_M) (T := T_M) (N := 7) hx hb hts (ui_M _) hown hK hP 0 rfl rfl 0 (by decide) (hts _ (gwc gw_528)) (fun _ h9 => h9) rfl d_M_parts_1 ?_
  refine va_getN (D := D) (ci := 6) (v := .int (nI n)) (C := R_MPath) (T := T_MPath) (N := 5) hx hb hts (ui_MPath _) hown hK hP 1 rfl rfl 2 (by decide) ((amb_nw_11 hM).use rfl) (fun _ h9 => h9) rfl d_M_parts_4 ?_
  exact ct_reti hQ hx hb hr hlocks hP hD hS () [(hm, .inr (1, [.ref a, .ref b, .ref qa, .ref qu, .ref qb, .ref qh, .ref qm])), (a, .inr (6, [.ref qk, .ref qp, .int (nI n), .int (bz fu), .int (bz fa)])), (qk, .inl (cB, 3000, .inl K)), (qp, .inl (cI, 18000, .inl P))] [0, 1, 2, 3] (rfl) (trivial) (rfl) rfl rfl (by omega) (by omega) d_M_parts_7
set_option maxHeartbeats 4000000 in
set_option maxRecDepth 100000 in
/-- clear() -/
theorem c_M_clear (l : Launch) (D : va_G) (cI cB cJ : ClassId) (qQ : Nat) (hm : Nat) (a : Nat) (b : Nat) (qa : Nat) (qu : Nat) (qb : Nat) (qh : Nat) (qm : Nat) (qk : Nat) (qp : Nat) (n : Nat) (K : Nat → Int32) (P : Nat → Int32) (fu : Bool) (fa : Bool)  : ct l D cl [(cI, .int), (cB, .byte), (cJ, .long)] (amb qQ) y_M_clear w_M_clear 1 20 (0) (0) [.ref hm] [(hm, .inr (1, [.ref a, .ref b, .ref qa, .ref qu, .ref qb, .ref qh, .ref qm])), (a, .inr (6, [.ref qk, .ref qp, .int (nI n), .int (bz fu), .int (bz fa)])), (qk, .inl (cB, 3000, .inl K)), (qp, .inl (cI, 18000, .inl P))] (fun _ : Unit => True) (fun _ : Unit => some (.int (nI n))) (fun _ : Unit => [(hm, .inr (1, [.ref a, .ref b, .ref qa, .ref qu, .ref qb, .ref qh, .ref qm])), (a, .inr (6, [.ref qk, .ref qp, .int (nI 0), .int (bz false), .int (bz false)])), (qk, .inl (cB, 3000, .inl K)), (qp, .inl (cI, 18000, .inl P))]) := by
  refine ct_ofW (cc := b_M_clear) (maxL := 2) (ret := (some .int)) (by decide) rfl (Nat.le_of_ble_eq_true rfl) ?_
  intro p e R s m args below meth c A Q ls hx hb hr hml hts hown hlocks hname hRf hRc hRs hRl hQ hK hP hD hS hA hM hl
  have hl : lv_has ls 2 [(0, .ref hm)] := hl
  refine lv_aload_n hx hb d_M_clear_0 rfl (lv_at hl 0 rfl) ?_
  refine va_get (D := D) (ci := 1) (v := .ref a) (C := R_M) (T := T_M) (N := 7) hx hb hts (ui_M _) hown hK hP 0 rfl rfl 0 (by decide) (hts _ (gwc gw_528)) (fun _ h9 => h9) rfl d_M_clear_1 ?_
  refine va_getN (D := D) (ci := 6) (v := .int (nI n)) (C := R_MPath) (T := T_MPath) (N := 5) hx hb hts (ui_MPath _) hown hK hP 1 rfl rfl 2 (by decide) ((amb_nw_11 hM).use rfl) (fun _ h9 => h9) rfl d_M_clear_4 ?_
  refine lv_istore_n (lv' := [(1, .int (nI n)), (0, .ref hm)]) hx hb d_M_clear_7 rfl hl (by decide) rfl (fun ls hl => ?_)
  refine lv_aload_n hx hb d_M_clear_8 rfl (lv_at hl 1 rfl) ?_
  refine va_get (D := D) (ci := 1) (v := .ref a) (C := R_M) (T := T_M) (N := 7) hx hb hts (ui_M _) hown hK hP 0 rfl rfl 0 (by decide) (hts _ (gwc gw_528)) (fun _ h9 => h9) rfl d_M_clear_9 ?_
  refine ct_callV (ci := 6) (q0 := 1) (As := []) (rest := []) (wr := [(hm, .inr (1, [.ref a, .ref b, .ref qa, .ref qu, .ref qb, .ref qh, .ref qm]))]) (n := 0) (c_MPath_empty l D cI cB cJ qQ a qk qp n K P fu fa ) hx hb hml hown hts (amb_ok qQ) hK hP hD hS hA hM (gi_V gw_624 gw_572 gw_573 gw_34 gw_574) rfl (by decide +kernel) ⟨by omega, by omega⟩ [1, 2, 3] [0] rfl rfl rfl rfl (by decide) rfl rfl rfl hl.1 rfl (Nat.le_of_ble_eq_true rfl) d_M_clear_12 ⟨by omega, by omega⟩ (fun u_1 H locs hok hP hD hS => ?_)
  have hP : va_P D cl [(hm, .inr (1, [.ref a, .ref b, .ref qa, .ref qu, .ref qb, .ref qh, .ref qm])), (a, .inr (6, [.ref qk, .ref qp, .int (nI 0), .int (bz false), .int (bz false)])), (qk, .inl (cB, 3000, .inl K)), (qp, .inl (cI, 18000, .inl P))] H := hP
  have hD : va_D A [(hm, .inr (1, [.ref a, .ref b, .ref qa, .ref qu, .ref qb, .ref qh, .ref qm])), (a, .inr (6, [.ref qk, .ref qp, .int (nI 0), .int (bz false), .int (bz false)])), (qk, .inl (cB, 3000, .inl K)), (qp, .inl (cI, 18000, .inl P))] := hD
  refine W.eq (g2 := F0 m 15 ls []) rfl ?_
  refine lv_iload_n hx hb d_M_clear_15 rfl (lv_at hl 0 rfl) ?_
  exact ct_reti hQ hx hb hr hlocks hP hD hS () [(hm, .inr (1, [.ref a, .ref b, .ref qa, .ref qu, .ref qb, .ref qh, .ref qm])), (a, .inr (6, [.ref qk, .ref qp, .int (nI 0), .int (bz false), .int (bz false)])), (qk, .inl (cB, 3000, .inl K)), (qp, .inl (cI, 18000, .inl P))] [0, 1, 2, 3] (rfl) (trivial) (rfl) rfl rfl (by omega) (by omega) d_M_clear_16
set_option maxHeartbeats 4000000 in
set_option maxRecDepth 100000 in
/-- move -/
theorem c_M_move (l : Launch) (D : va_G) (cI cB cJ : ClassId) (qQ : Nat) (hm : Nat) (a : Nat) (b : Nat) (qa : Nat) (qu : Nat) (qb : Nat) (qh : Nat) (qm : Nat) (qk : Nat) (qp : Nat) (n : Nat) (K : Nat → Int32) (P : Nat → Int32) (fu : Bool) (fa : Bool) (qk2 : Nat) (qp2 : Nat) (n2 : Nat) (K2 : Nat → Int32) (P2 : Nat → Int32) (fu2 : Bool) (fa2 : Bool) (x : Int32) (y : Int32) (hn : n ≤ 3000) (hk : ∀ i, i < n → kok (K i)) (h0 : 0 < n → K 0 = 0) : ct l D cl [(cI, .int), (cB, .byte), (cJ, .long)] (amb qQ) y_M_move w_M_move 4 103 (0) (0) [.ref hm, .int x, .int y] [(hm, .inr (1, [.ref a, .ref b, .ref qa, .ref qu, .ref qb, .ref qh, .ref qm])), (a, .inr (6, [.ref qk, .ref qp, .int (nI n), .int (bz fu), .int (bz fa)])), (qk, .inl (cB, 3000, .inl K)), (qp, .inl (cI, 18000, .inl P)), (b, .inr (6, [.ref qk2, .ref qp2, .int (nI n2), .int (bz fu2), .int (bz fa2)])), (qk2, .inl (cB, 3000, .inl K2)), (qp2, .inl (cI, 18000, .inl P2))] (fun u_ : Int32 × Nat × Nat × Nat × Nat × Nat × (Nat → Int32) × (Nat → Int32) × Bool × Bool × Nat × Nat × Nat × (Nat → Int32) × (Nat → Int32) × Bool × Bool => match u_ with | (r, a', b', qk', qp', n', K', P', fu', fa', qk2', qp2', n2', K2', P2', fu2', fa2') => n' ≤ 3000 ∧ (r, lst n' K' P') = rMove (lst n K P) x y) (fun u_ : Int32 × Nat × Nat × Nat × Nat × Nat × (Nat → Int32) × (Nat → Int32) × Bool × Bool × Nat × Nat × Nat × (Nat → Int32) × (Nat → Int32) × Bool × Bool => match u_ with | (r, a', b', qk', qp', n', K', P', fu', fa', qk2', qp2', n2', K2', P2', fu2', fa2') => some (.int r)) (fun u_ : Int32 × Nat × Nat × Nat × Nat × Nat × (Nat → Int32) × (Nat → Int32) × Bool × Bool × Nat × Nat × Nat × (Nat → Int32) × (Nat → Int32) × Bool × Bool => match u_ with | (r, a', b', qk', qp', n', K', P', fu', fa', qk2', qp2', n2', K2', P2', fu2', fa2') => [(hm, .inr (1, [.ref a', .ref b', .ref qa, .ref qu, .ref qb, .ref qh, .ref qm])), (a', .inr (6, [.ref qk', .ref qp', .int (nI n'), .int (bz fu'), .int (bz fa')])), (qk', .inl (cB, 3000, .inl K')), (qp', .inl (cI, 18000, .inl P')), (b', .inr (6, [.ref qk2', .ref qp2', .int (nI n2'), .int (bz fu2'), .int (bz fa2')])), (qk2', .inl (cB, 3000, .inl K2')), (qp2', .inl (cI, 18000, .inl P2'))]) := by
  refine ct_ofW (cc := b_M_move) (maxL := 3) (ret := (some .int)) (by decide) rfl (Nat.le_of_ble_eq_true rfl) ?_
  intro p e R s m args below meth c A Q ls hx hb hr hml hts hown hlocks hname hRf hRc hRs hRl hQ hK hP hD hS hA hM hl
  have hl : lv_has ls 3 [(0, .ref hm), (1, .int x), (2, .int y)] := hl
  refine lv_aload_n hx hb d_M_move_0 rfl (lv_at hl 0 rfl) ?_
  refine va_get (D := D) (ci := 1) (v := .ref b) (C := R_M) (T := T_M) (N := 7) hx hb hts (ui_M _) hown hK hP 0 rfl rfl 1 (by decide) (hts _ (gwc gw_529)) (fun _ h9 => h9) rfl d_M_move_1 ?_
  refine lv_aload_n hx hb d_M_move_4 rfl (lv_at hl 0 rfl) ?_
  refine va_get (D := D) (ci := 1) (v := .ref a) (C := R_M) (T := T_M) (N := 7) hx hb hts (ui_M _) hown hK hP 0 rfl rfl 0 (by decide) (hts _ (gwc gw_528)) (fun _ h9 => h9) rfl d_M_move_5 ?_
  refine ct_callV (ci := 6) (q0 := 4) (As := [.ref a]) (rest := []) (wr := [(hm, .inr (1, [.ref a, .ref b, .ref qa, .ref qu, .ref qb, .ref qh, .ref qm]))]) (n := 1) (c_MPath_copy l D cI cB cJ qQ b qk2 qp2 n2 K2 P2 fu2 fa2 a qk qp n K P fu fa (hn) (hk)) hx hb hml hown hts (amb_ok qQ) hK hP hD hS hA hM (gi_V gw_567 gw_568 gw_569 gw_34 gw_570) rfl (by decide +kernel) ⟨by omega, by omega⟩ [4, 5, 6, 1, 2, 3] [0] rfl rfl rfl rfl (by decide) rfl rfl rfl hl.1 rfl (Nat.le_of_ble_eq_true rfl) d_M_move_8 ⟨by omega, by omega⟩ (fun u_1 H locs hok hP hD hS => ?_)
  obtain ⟨K'_2, P'_3⟩ := u_1
  have hcp : lst n K'_2 P'_3 = lst n K P := hok
  have hP : va_P D cl [(hm, .inr (1, [.ref a, .ref b, .ref qa, .ref qu, .ref qb, .ref qh, .ref qm])), (b, .inr (6, [.ref qk2, .ref qp2, .int (nI n), .int (bz false), .int (bz false)])), (qk2, .inl (cB, 3000, .inl K'_2)), (qp2, .inl (cI, 18000, .inl P'_3)), (a, .inr (6, [.ref qk, .ref qp, .int (nI n), .int (bz fu), .int (bz fa)])), (qk, .inl (cB, 3000, .inl K)), (qp, .inl (cI, 18000, .inl P))] H := hP
  have hD : va_D A [(hm, .inr (1, [.ref a, .ref b, .ref qa, .ref qu, .ref qb, .ref qh, .ref qm])), (b, .inr (6, [.ref qk2, .ref qp2, .int (nI n), .int (bz false), .int (bz false)])), (qk2, .inl (cB, 3000, .inl K'_2)), (qp2, .inl (cI, 18000, .inl P'_3)), (a, .inr (6, [.ref qk, .ref qp, .int (nI n), .int (bz fu), .int (bz fa)])), (qk, .inl (cB, 3000, .inl K)), (qp, .inl (cI, 18000, .inl P))] := hD
  refine W.eq (g2 := F0 m 11 ls []) rfl ?_
  refine lv_aload_n hx hb d_M_move_11 rfl (lv_at hl 0 rfl) ?_
  refine va_get (D := D) (ci := 1) (v := .ref b) (C := R_M) (T := T_M) (N := 7) hx hb hts (ui_M _) hown hK hP 0 rfl rfl 1 (by decide) (hts _ (gwc gw_529)) (fun _ h9 => h9) rfl d_M_move_12 ?_
  refine lv_iload_n hx hb d_M_move_15 rfl (lv_at hl 1 rfl) ?_
  refine lv_i2l (v := x.toInt64) hx hb d_M_move_16 rfl ?_
  refine lv_iload_n hx hb d_M_move_17 rfl (lv_at hl 2 rfl) ?_
  refine lv_i2l (v := y.toInt64) hx hb d_M_move_18 rfl ?_
  refine ct_callV (ci := 6) (q0 := 1) (As := [.long x.toInt64, .long y.toInt64]) (rest := []) (wr := [(hm, .inr (1, [.ref a, .ref b, .ref qa, .ref qu, .ref qb, .ref qh, .ref qm])), (a, .inr (6, [.ref qk, .ref qp, .int (nI n), .int (bz fu), .int (bz fa)])), (qk, .inl (cB, 3000, .inl K)), (qp, .inl (cI, 18000, .inl P))]) (n := 2) (c_MPath_begin l D cI cB cJ qQ b qk2 qp2 n K'_2 P'_3 false false x.toInt64 y.toInt64 (hn)) hx hb hml hown hts (amb_ok qQ) hK hP hD hS hA hM (gi_V gw_575 gw_576 gw_577 gw_34 gw_578) rfl (by decide +kernel) ⟨by omega, by omega⟩ [1, 2, 3] [0, 4, 5, 6] rfl rfl rfl rfl (by decide) rfl rfl rfl hl.1 rfl (Nat.le_of_ble_eq_true rfl) d_M_move_19 ⟨by omega, by omega⟩ (fun u_4 H locs hok hP hD hS => ?_)
  obtain ⟨n'_5, K'_6, P'_7, fu'_8, fa'_9⟩ := u_4
  have hbg : n'_5 ≤ 3000 ∧ (lst n'_5 K'_6 P'_7, fu'_8, fa'_9) = beginD (lst n K'_2 P'_3, false, false) x.toInt64 y.toInt64 := hok
  have hP : va_P D cl [(hm, .inr (1, [.ref a, .ref b, .ref qa, .ref qu, .ref qb, .ref qh, .ref qm])), (a, .inr (6, [.ref qk, .ref qp, .int (nI n), .int (bz fu), .int (bz fa)])), (qk, .inl (cB, 3000, .inl K)), (qp, .inl (cI, 18000, .inl P)), (b, .inr (6, [.ref qk2, .ref qp2, .int (nI n'_5), .int (bz fu'_8), .int (bz fa'_9)])), (qk2, .inl (cB, 3000, .inl K'_6)), (qp2, .inl (cI, 18000, .inl P'_7))] H := hP
  have hD : va_D A [(hm, .inr (1, [.ref a, .ref b, .ref qa, .ref qu, .ref qb, .ref qh, .ref qm])), (a, .inr (6, [.ref qk, .ref qp, .int (nI n), .int (bz fu), .int (bz fa)])), (qk, .inl (cB, 3000, .inl K)), (qp, .inl (cI, 18000, .inl P)), (b, .inr (6, [.ref qk2, .ref qp2, .int (nI n'_5), .int (bz fu'_8), .int (bz fa'_9)])), (qk2, .inl (cB, 3000, .inl K'_6)), (qp2, .inl (cI, 18000, .inl P'_7))] := hD
  refine W.eq (g2 := F0 m 22 ls []) rfl ?_
  rw [hcp] at hbg
  refine lv_aload_n hx hb d_M_move_22 rfl (lv_at hl 0 rfl) ?_
  refine ct_callV (ci := 1) (q0 := 0) (As := []) (rest := []) (wr := []) (n := 0) (c_M_settle l D cI cB cJ qQ hm a b qa qu qb qh qm qk qp n K P fu fa qk2 qp2 n'_5 K'_6 P'_7 fu'_8 fa'_9 ) hx hb hml hown hts (amb_ok qQ) hK hP hD hS hA hM (gi_V gw_592 gw_594 gw_18 gw_33 gw_595) rfl (by decide +kernel) ⟨by omega, by omega⟩ [0, 1, 2, 3, 4, 5, 6] [] rfl rfl rfl rfl (by decide) rfl rfl rfl hl.1 rfl (Nat.le_of_ble_eq_true rfl) d_M_move_23 ⟨by omega, by omega⟩ (fun u_10 H locs hok hP hD hS => ?_)
  obtain ⟨r_11, a'_12, b'_13⟩ := u_10
  have hok_14 : ((fa'_9 = true) ∧ (-4) = r_11 ∧ a = a'_12 ∧ b = b'_13) ∨ ((fa'_9 = false) ∧ (fu'_8 = true) ∧ (-3) = r_11 ∧ a = a'_12 ∧ b = b'_13) ∨ ((fa'_9 = false) ∧ (fu'_8 = false) ∧ nI n'_5 = r_11 ∧ b = a'_12 ∧ a = b'_13) := hok
  rcases hok_14 with ⟨h_15, rfl, rfl, rfl⟩ | ⟨h_16, h_17, rfl, rfl, rfl⟩ | ⟨h_18, h_19, rfl, rfl, rfl⟩
  · skip
    have hP : va_P D cl [(hm, .inr (1, [.ref a, .ref b, .ref qa, .ref qu, .ref qb, .ref qh, .ref qm])), (a, .inr (6, [.ref qk, .ref qp, .int (nI n), .int (bz fu), .int (bz fa)])), (qk, .inl (cB, 3000, .inl K)), (qp, .inl (cI, 18000, .inl P)), (b, .inr (6, [.ref qk2, .ref qp2, .int (nI n'_5), .int (bz fu'_8), .int (bz fa'_9)])), (qk2, .inl (cB, 3000, .inl K'_6)), (qp2, .inl (cI, 18000, .inl P'_7))] H := hP
    have hD : va_D A [(hm, .inr (1, [.ref a, .ref b, .ref qa, .ref qu, .ref qb, .ref qh, .ref qm])), (a, .inr (6, [.ref qk, .ref qp, .int (nI n), .int (bz fu), .int (bz fa)])), (qk, .inl (cB, 3000, .inl K)), (qp, .inl (cI, 18000, .inl P)), (b, .inr (6, [.ref qk2, .ref qp2, .int (nI n'_5), .int (bz fu'_8), .int (bz fa'_9)])), (qk2, .inl (cB, 3000, .inl K'_6)), (qp2, .inl (cI, 18000, .inl P'_7))] := hD
    refine W.eq (g2 := F0 m 26 ls [.int (-4)]) rfl ?_
    exact ct_reti hQ hx hb hr hlocks hP hD hS ((-4), a, b, qk, qp, n, K, P, fu, fa, qk2, qp2, n'_5, K'_6, P'_7, fu'_8, fa'_9) [(hm, .inr (1, [.ref a, .ref b, .ref qa, .ref qu, .ref qb, .ref qh, .ref qm])), (a, .inr (6, [.ref qk, .ref qp, .int (nI n), .int (bz fu), .int (bz fa)])), (qk, .inl (cB, 3000, .inl K)), (qp, .inl (cI, 18000, .inl P)), (b, .inr (6, [.ref qk2, .ref qp2, .int (nI n'_5), .int (bz fu'_8), .int (bz fa'_9)])), (qk2, .inl (cB, 3000, .inl K'_6)), (qp2, .inl (cI, 18000, .inl P'_7))] [0, 1, 2, 3, 4, 5, 6] (rfl) (⟨hn, by unfold rMove; rw [setl_far hbg.2 h_15]⟩) (rfl) rfl rfl (by omega) (by omega) d_M_move_26
  · skip
    have hP : va_P D cl [(hm, .inr (1, [.ref a, .ref b, .ref qa, .ref qu, .ref qb, .ref qh, .ref qm])), (a, .inr (6, [.ref qk, .ref qp, .int (nI n), .int (bz fu), .int (bz fa)])), (qk, .inl (cB, 3000, .inl K)), (qp, .inl (cI, 18000, .inl P)), (b, .inr (6, [.ref qk2, .ref qp2, .int (nI n'_5), .int (bz fu'_8), .int (bz fa'_9)])), (qk2, .inl (cB, 3000, .inl K'_6)), (qp2, .inl (cI, 18000, .inl P'_7))] H := hP
    have hD : va_D A [(hm, .inr (1, [.ref a, .ref b, .ref qa, .ref qu, .ref qb, .ref qh, .ref qm])), (a, .inr (6, [.ref qk, .ref qp, .int (nI n), .int (bz fu), .int (bz fa)])), (qk, .inl (cB, 3000, .inl K)), (qp, .inl (cI, 18000, .inl P)), (b, .inr (6, [.ref qk2, .ref qp2, .int (nI n'_5), .int (bz fu'_8), .int (bz fa'_9)])), (qk2, .inl (cB, 3000, .inl K'_6)), (qp2, .inl (cI, 18000, .inl P'_7))] := hD
    refine W.eq (g2 := F0 m 26 ls [.int (-3)]) rfl ?_
    exact ct_reti hQ hx hb hr hlocks hP hD hS ((-3), a, b, qk, qp, n, K, P, fu, fa, qk2, qp2, n'_5, K'_6, P'_7, fu'_8, fa'_9) [(hm, .inr (1, [.ref a, .ref b, .ref qa, .ref qu, .ref qb, .ref qh, .ref qm])), (a, .inr (6, [.ref qk, .ref qp, .int (nI n), .int (bz fu), .int (bz fa)])), (qk, .inl (cB, 3000, .inl K)), (qp, .inl (cI, 18000, .inl P)), (b, .inr (6, [.ref qk2, .ref qp2, .int (nI n'_5), .int (bz fu'_8), .int (bz fa'_9)])), (qk2, .inl (cB, 3000, .inl K'_6)), (qp2, .inl (cI, 18000, .inl P'_7))] [0, 1, 2, 3, 4, 5, 6] (rfl) (⟨hn, by unfold rMove; rw [setl_full hbg.2 h_16 h_17]⟩) (rfl) rfl rfl (by omega) (by omega) d_M_move_26
  · skip
    have hP : va_P D cl [(hm, .inr (1, [.ref b, .ref a, .ref qa, .ref qu, .ref qb, .ref qh, .ref qm])), (a, .inr (6, [.ref qk, .ref qp, .int (nI n), .int (bz fu), .int (bz fa)])), (qk, .inl (cB, 3000, .inl K)), (qp, .inl (cI, 18000, .inl P)), (b, .inr (6, [.ref qk2, .ref qp2, .int (nI n'_5), .int (bz fu'_8), .int (bz fa'_9)])), (qk2, .inl (cB, 3000, .inl K'_6)), (qp2, .inl (cI, 18000, .inl P'_7))] H := hP
    have hD : va_D A [(hm, .inr (1, [.ref b, .ref a, .ref qa, .ref qu, .ref qb, .ref qh, .ref qm])), (a, .inr (6, [.ref qk, .ref qp, .int (nI n), .int (bz fu), .int (bz fa)])), (qk, .inl (cB, 3000, .inl K)), (qp, .inl (cI, 18000, .inl P)), (b, .inr (6, [.ref qk2, .ref qp2, .int (nI n'_5), .int (bz fu'_8), .int (bz fa'_9)])), (qk2, .inl (cB, 3000, .inl K'_6)), (qp2, .inl (cI, 18000, .inl P'_7))] := hD
    refine W.eq (g2 := F0 m 26 ls [.int (nI n'_5)]) rfl ?_
    exact ct_reti hQ hx hb hr hlocks hP hD hS ((nI n'_5), b, a, qk2, qp2, n'_5, K'_6, P'_7, fu'_8, fa'_9, qk, qp, n, K, P, fu, fa) [(hm, .inr (1, [.ref b, .ref a, .ref qa, .ref qu, .ref qb, .ref qh, .ref qm])), (b, .inr (6, [.ref qk2, .ref qp2, .int (nI n'_5), .int (bz fu'_8), .int (bz fa'_9)])), (qk2, .inl (cB, 3000, .inl K'_6)), (qp2, .inl (cI, 18000, .inl P'_7)), (a, .inr (6, [.ref qk, .ref qp, .int (nI n), .int (bz fu), .int (bz fa)])), (qk, .inl (cB, 3000, .inl K)), (qp, .inl (cI, 18000, .inl P))] [0, 4, 5, 6, 1, 2, 3] (rfl) (⟨hbg.1, by unfold rMove; rw [setl_ok hbg.2 h_18 h_19, lst_len]⟩) (rfl) rfl rfl (by omega) (by omega) d_M_move_26
set_option maxHeartbeats 4000000 in
set_option maxRecDepth 100000 in
/-- line -/
theorem c_M_line (l : Launch) (D : va_G) (cI cB cJ : ClassId) (qQ : Nat) (hm : Nat) (a : Nat) (b : Nat) (qa : Nat) (qu : Nat) (qb : Nat) (qh : Nat) (qm : Nat) (qk : Nat) (qp : Nat) (n : Nat) (K : Nat → Int32) (P : Nat → Int32) (fu : Bool) (fa : Bool) (qk2 : Nat) (qp2 : Nat) (n2 : Nat) (K2 : Nat → Int32) (P2 : Nat → Int32) (fu2 : Bool) (fa2 : Bool) (x : Int32) (y : Int32) (hn : n ≤ 3000) (hk : ∀ i, i < n → kok (K i)) (h0 : 0 < n → K 0 = 0) : ct l D cl [(cI, .int), (cB, .byte), (cJ, .long)] (amb qQ) y_M_line w_M_line 4 99 (0) (0) [.ref hm, .int x, .int y] [(hm, .inr (1, [.ref a, .ref b, .ref qa, .ref qu, .ref qb, .ref qh, .ref qm])), (a, .inr (6, [.ref qk, .ref qp, .int (nI n), .int (bz fu), .int (bz fa)])), (qk, .inl (cB, 3000, .inl K)), (qp, .inl (cI, 18000, .inl P)), (b, .inr (6, [.ref qk2, .ref qp2, .int (nI n2), .int (bz fu2), .int (bz fa2)])), (qk2, .inl (cB, 3000, .inl K2)), (qp2, .inl (cI, 18000, .inl P2))] (fun u_ : Int32 × Nat × Nat × Nat × Nat × Nat × (Nat → Int32) × (Nat → Int32) × Bool × Bool × Nat × Nat × Nat × (Nat → Int32) × (Nat → Int32) × Bool × Bool => match u_ with | (r, a', b', qk', qp', n', K', P', fu', fa', qk2', qp2', n2', K2', P2', fu2', fa2') => n' ≤ 3000 ∧ (r, lst n' K' P') = rLine (lst n K P) x y) (fun u_ : Int32 × Nat × Nat × Nat × Nat × Nat × (Nat → Int32) × (Nat → Int32) × Bool × Bool × Nat × Nat × Nat × (Nat → Int32) × (Nat → Int32) × Bool × Bool => match u_ with | (r, a', b', qk', qp', n', K', P', fu', fa', qk2', qp2', n2', K2', P2', fu2', fa2') => some (.int r)) (fun u_ : Int32 × Nat × Nat × Nat × Nat × Nat × (Nat → Int32) × (Nat → Int32) × Bool × Bool × Nat × Nat × Nat × (Nat → Int32) × (Nat → Int32) × Bool × Bool => match u_ with | (r, a', b', qk', qp', n', K', P', fu', fa', qk2', qp2', n2', K2', P2', fu2', fa2') => [(hm, .inr (1, [.ref a', .ref b', .ref qa, .ref qu, .ref qb, .ref qh, .ref qm])), (a', .inr (6, [.ref qk', .ref qp', .int (nI n'), .int (bz fu'), .int (bz fa')])), (qk', .inl (cB, 3000, .inl K')), (qp', .inl (cI, 18000, .inl P')), (b', .inr (6, [.ref qk2', .ref qp2', .int (nI n2'), .int (bz fu2'), .int (bz fa2')])), (qk2', .inl (cB, 3000, .inl K2')), (qp2', .inl (cI, 18000, .inl P2'))]) := by
  refine ct_ofW (cc := b_M_line) (maxL := 3) (ret := (some .int)) (by decide) rfl (Nat.le_of_ble_eq_true rfl) ?_
  intro p e R s m args below meth c A Q ls hx hb hr hml hts hown hlocks hname hRf hRc hRs hRl hQ hK hP hD hS hA hM hl
  have hl : lv_has ls 3 [(0, .ref hm), (1, .int x), (2, .int y)] := hl
  refine lv_aload_n hx hb d_M_line_0 rfl (lv_at hl 0 rfl) ?_
  refine ct_callV (ci := 1) (q0 := 0) (As := []) (rest := []) (wr := [(b, .inr (6, [.ref qk2, .ref qp2, .int (nI n2), .int (bz fu2), .int (bz fa2)])), (qk2, .inl (cB, 3000, .inl K2)), (qp2, .inl (cI, 18000, .inl P2))]) (n := 0) (c_M_isPoint l D cI cB cJ qQ hm a b qa qu qb qh qm qk qp n K P fu fa (hn)) hx hb hml hown hts (amb_ok qQ) hK hP hD hS hA hM (gi_V gw_600 gw_552 gw_553 gw_33 gw_554) rfl (by decide +kernel) ⟨by omega, by omega⟩ [0, 1, 2, 3] [4, 5, 6] rfl rfl rfl rfl (by decide) rfl rfl rfl hl.1 rfl (Nat.le_of_ble_eq_true rfl) d_M_line_1 ⟨by omega, by omega⟩ (fun u_1 H locs hok hP hD hS => ?_)
  have hP : va_P D cl [(b, .inr (6, [.ref qk2, .ref qp2, .int (nI n2), .int (bz fu2), .int (bz fa2)])), (qk2, .inl (cB, 3000, .inl K2)), (qp2, .inl (cI, 18000, .inl P2)), (hm, .inr (1, [.ref a, .ref b, .ref qa, .ref qu, .ref qb, .ref qh, .ref qm])), (a, .inr (6, [.ref qk, .ref qp, .int (nI n), .int (bz fu), .int (bz fa)])), (qk, .inl (cB, 3000, .inl K)), (qp, .inl (cI, 18000, .inl P))] H := hP
  have hD : va_D A [(b, .inr (6, [.ref qk2, .ref qp2, .int (nI n2), .int (bz fu2), .int (bz fa2)])), (qk2, .inl (cB, 3000, .inl K2)), (qp2, .inl (cI, 18000, .inl P2)), (hm, .inr (1, [.ref a, .ref b, .ref qa, .ref qu, .ref qb, .ref qh, .ref qm])), (a, .inr (6, [.ref qk, .ref qp, .int (nI n), .int (bz fu), .int (bz fa)])), (qk, .inl (cB, 3000, .inl K)), (qp, .inl (cI, 18000, .inl P))] := hD
  refine W.eq (g2 := F0 m 4 ls [.int (bz (decide (0 < n)))]) rfl ?_
  refine bb_ne (tgt := 10) hx hb d_M_line_4 (by decide) (fun c_2 => ?_) (fun c_2 => ?_)
  · skip
    have hz : ¬ (lst n K P).length = 0 := by rw [lst_len]; have := of_decide_eq_true c_2; omega
    refine lv_aload_n hx hb d_M_line_10 rfl (lv_at hl 0 rfl) ?_
    refine va_get (D := D) (ci := 1) (v := .ref b) (C := R_M) (T := T_M) (N := 7) hx hb hts (ui_M _) hown hK hP 3 rfl rfl 1 (by decide) (hts _ (gwc gw_529)) (fun _ h9 => h9) rfl d_M_line_11 ?_
    refine lv_aload_n hx hb d_M_line_14 rfl (lv_at hl 0 rfl) ?_
    refine va_get (D := D) (ci := 1) (v := .ref a) (C := R_M) (T := T_M) (N := 7) hx hb hts (ui_M _) hown hK hP 3 rfl rfl 0 (by decide) (hts _ (gwc gw_528)) (fun _ h9 => h9) rfl d_M_line_15 ?_
    refine ct_callV (ci := 6) (q0 := 0) (As := [.ref a]) (rest := []) (wr := [(hm, .inr (1, [.ref a, .ref b, .ref qa, .ref qu, .ref qb, .ref qh, .ref qm]))]) (n := 1) (c_MPath_copy l D cI cB cJ qQ b qk2 qp2 n2 K2 P2 fu2 fa2 a qk qp n K P fu fa (hn) (hk)) hx hb hml hown hts (amb_ok qQ) hK hP hD hS hA hM (gi_V gw_567 gw_568 gw_569 gw_34 gw_570) rfl (by decide +kernel) ⟨by omega, by omega⟩ [0, 1, 2, 4, 5, 6] [3] rfl rfl rfl rfl (by decide) rfl rfl rfl hl.1 rfl (Nat.le_of_ble_eq_true rfl) d_M_line_18 ⟨by omega, by omega⟩ (fun u_3 H locs hok hP hD hS => ?_)
    obtain ⟨K'_4, P'_5⟩ := u_3
    have hcp : lst n K'_4 P'_5 = lst n K P := hok
    have hP : va_P D cl [(hm, .inr (1, [.ref a, .ref b, .ref qa, .ref qu, .ref qb, .ref qh, .ref qm])), (b, .inr (6, [.ref qk2, .ref qp2, .int (nI n), .int (bz false), .int (bz false)])), (qk2, .inl (cB, 3000, .inl K'_4)), (qp2, .inl (cI, 18000, .inl P'_5)), (a, .inr (6, [.ref qk, .ref qp, .int (nI n), .int (bz fu), .int (bz fa)])), (qk, .inl (cB, 3000, .inl K)), (qp, .inl (cI, 18000, .inl P))] H := hP
    have hD : va_D A [(hm, .inr (1, [.ref a, .ref b, .ref qa, .ref qu, .ref qb, .ref qh, .ref qm])), (b, .inr (6, [.ref qk2, .ref qp2, .int (nI n), .int (bz false), .int (bz false)])), (qk2, .inl (cB, 3000, .inl K'_4)), (qp2, .inl (cI, 18000, .inl P'_5)), (a, .inr (6, [.ref qk, .ref qp, .int (nI n), .int (bz fu), .int (bz fa)])), (qk, .inl (cB, 3000, .inl K)), (qp, .inl (cI, 18000, .inl P))] := hD
    refine W.eq (g2 := F0 m 21 ls []) rfl ?_
    refine lv_aload_n hx hb d_M_line_21 rfl (lv_at hl 0 rfl) ?_
    refine va_get (D := D) (ci := 1) (v := .ref b) (C := R_M) (T := T_M) (N := 7) hx hb hts (ui_M _) hown hK hP 0 rfl rfl 1 (by decide) (hts _ (gwc gw_529)) (fun _ h9 => h9) rfl d_M_line_22 ?_
    refine ct_callV (ci := 6) (q0 := 1) (As := []) (rest := []) (wr := [(hm, .inr (1, [.ref a, .ref b, .ref qa, .ref qu, .ref qb, .ref qh, .ref qm])), (a, .inr (6, [.ref qk, .ref qp, .int (nI n), .int (bz fu), .int (bz fa)])), (qk, .inl (cB, 3000, .inl K)), (qp, .inl (cI, 18000, .inl P))]) (n := 0) (c_MPath_open l D cI cB cJ qQ b qk2 qp2 n K'_4 P'_5 false false (hn)) hx hb hml hown hts (amb_ok qQ) hK hP hD hS hA hM (gi_V gw_601 gw_602 gw_603 gw_34 gw_604) rfl (by decide +kernel) ⟨by omega, by omega⟩ [1, 2, 3] [0, 4, 5, 6] rfl rfl rfl rfl (by decide) rfl rfl rfl hl.1 rfl (Nat.le_of_ble_eq_true rfl) d_M_line_25 ⟨by omega, by omega⟩ (fun u_6 H locs hok hP hD hS => ?_)
    obtain ⟨n'_7, K'_8, P'_9, fu'_10, fa'_11⟩ := u_6
    have hop : n'_7 ≤ 3000 ∧ (lst n'_7 K'_8 P'_9, fu'_10, fa'_11) = openD (lst n K'_4 P'_5, false, false) := hok
    have hP : va_P D cl [(hm, .inr (1, [.ref a, .ref b, .ref qa, .ref qu, .ref qb, .ref qh, .ref qm])), (a, .inr (6, [.ref qk, .ref qp, .int (nI n), .int (bz fu), .int (bz fa)])), (qk, .inl (cB, 3000, .inl K)), (qp, .inl (cI, 18000, .inl P)), (b, .inr (6, [.ref qk2, .ref qp2, .int (nI n'_7), .int (bz fu'_10), .int (bz fa'_11)])), (qk2, .inl (cB, 3000, .inl K'_8)), (qp2, .inl (cI, 18000, .inl P'_9))] H := hP
    have hD : va_D A [(hm, .inr (1, [.ref a, .ref b, .ref qa, .ref qu, .ref qb, .ref qh, .ref qm])), (a, .inr (6, [.ref qk, .ref qp, .int (nI n), .int (bz fu), .int (bz fa)])), (qk, .inl (cB, 3000, .inl K)), (qp, .inl (cI, 18000, .inl P)), (b, .inr (6, [.ref qk2, .ref qp2, .int (nI n'_7), .int (bz fu'_10), .int (bz fa'_11)])), (qk2, .inl (cB, 3000, .inl K'_8)), (qp2, .inl (cI, 18000, .inl P'_9))] := hD
    refine W.eq (g2 := F0 m 28 ls []) rfl ?_
    rw [hcp] at hop
    refine lv_aload_n hx hb d_M_line_28 rfl (lv_at hl 0 rfl) ?_
    refine va_get (D := D) (ci := 1) (v := .ref b) (C := R_M) (T := T_M) (N := 7) hx hb hts (ui_M _) hown hK hP 0 rfl rfl 1 (by decide) (hts _ (gwc gw_529)) (fun _ h9 => h9) rfl d_M_line_29 ?_
    refine lv_iconst (v := 1) hx hb d_M_line_32 (by decide) ?_
    refine lv_iload_n hx hb d_M_line_33 rfl (lv_at hl 1 rfl) ?_
    refine lv_i2l (v := x.toInt64) hx hb d_M_line_34 rfl ?_
    refine lv_iload_n hx hb d_M_line_35 rfl (lv_at hl 2 rfl) ?_
    refine lv_i2l (v := y.toInt64) hx hb d_M_line_36 rfl ?_
    refine ct_callV (ci := 6) (q0 := 4) (As := [.int 1, .long x.toInt64, .long y.toInt64]) (rest := []) (wr := [(hm, .inr (1, [.ref a, .ref b, .ref qa, .ref qu, .ref qb, .ref qh, .ref qm])), (a, .inr (6, [.ref qk, .ref qp, .int (nI n), .int (bz fu), .int (bz fa)])), (qk, .inl (cB, 3000, .inl K)), (qp, .inl (cI, 18000, .inl P))]) (n := 3) (c_MPath_addPoint l D cI cB cJ qQ b qk2 qp2 n'_7 K'_8 P'_9 fu'_10 fa'_11 1 x.toInt64 y.toInt64 (hop.1) (kok1)) hx hb hml hown hts (amb_ok qQ) hK hP hD hS hA hM (gi_V gw_606 gw_580 gw_581 gw_34 gw_582) rfl (by decide +kernel) ⟨by omega, by omega⟩ [4, 5, 6] [0, 1, 2, 3] rfl rfl rfl rfl (by decide) rfl rfl rfl hl.1 rfl (Nat.le_of_ble_eq_true rfl) d_M_line_37 ⟨by omega, by omega⟩ (fun u_12 H locs hok hP hD hS => ?_)
    obtain ⟨n'_13, K'_14, P'_15, fu'_16, fa'_17⟩ := u_12
    have hbg : n'_13 ≤ 3000 ∧ (lst n'_13 K'_14 P'_15, fu'_16, fa'_17) = addD (lst n'_7 K'_8 P'_9, fu'_10, fa'_11) 1 x.toInt64 y.toInt64 0 0 0 0 := hok
    have hP : va_P D cl [(hm, .inr (1, [.ref a, .ref b, .ref qa, .ref qu, .ref qb, .ref qh, .ref qm])), (a, .inr (6, [.ref qk, .ref qp, .int (nI n), .int (bz fu), .int (bz fa)])), (qk, .inl (cB, 3000, .inl K)), (qp, .inl (cI, 18000, .inl P)), (b, .inr (6, [.ref qk2, .ref qp2, .int (nI n'_13), .int (bz fu'_16), .int (bz fa'_17)])), (qk2, .inl (cB, 3000, .inl K'_14)), (qp2, .inl (cI, 18000, .inl P'_15))] H := hP
    have hD : va_D A [(hm, .inr (1, [.ref a, .ref b, .ref qa, .ref qu, .ref qb, .ref qh, .ref qm])), (a, .inr (6, [.ref qk, .ref qp, .int (nI n), .int (bz fu), .int (bz fa)])), (qk, .inl (cB, 3000, .inl K)), (qp, .inl (cI, 18000, .inl P)), (b, .inr (6, [.ref qk2, .ref qp2, .int (nI n'_13), .int (bz fu'_16), .int (bz fa'_17)])), (qk2, .inl (cB, 3000, .inl K'_14)), (qp2, .inl (cI, 18000, .inl P'_15))] := hD
    refine W.eq (g2 := F0 m 40 ls []) rfl ?_
    rw [hop.2] at hbg
    refine lv_aload_n hx hb d_M_line_40 rfl (lv_at hl 0 rfl) ?_
    refine ct_callV (ci := 1) (q0 := 0) (As := []) (rest := []) (wr := []) (n := 0) (c_M_settle l D cI cB cJ qQ hm a b qa qu qb qh qm qk qp n K P fu fa qk2 qp2 n'_13 K'_14 P'_15 fu'_16 fa'_17 ) hx hb hml hown hts (amb_ok qQ) hK hP hD hS hA hM (gi_V gw_592 gw_594 gw_18 gw_33 gw_595) rfl (by decide +kernel) ⟨by omega, by omega⟩ [0, 1, 2, 3, 4, 5, 6] [] rfl rfl rfl rfl (by decide) rfl rfl rfl hl.1 rfl (Nat.le_of_ble_eq_true rfl) d_M_line_41 ⟨by omega, by omega⟩ (fun u_18 H locs hok hP hD hS => ?_)
    obtain ⟨r_19, a'_20, b'_21⟩ := u_18
    have hok_22 : ((fa'_17 = true) ∧ (-4) = r_19 ∧ a = a'_20 ∧ b = b'_21) ∨ ((fa'_17 = false) ∧ (fu'_16 = true) ∧ (-3) = r_19 ∧ a = a'_20 ∧ b = b'_21) ∨ ((fa'_17 = false) ∧ (fu'_16 = false) ∧ nI n'_13 = r_19 ∧ b = a'_20 ∧ a = b'_21) := hok
    rcases hok_22 with ⟨h_23, rfl, rfl, rfl⟩ | ⟨h_24, h_25, rfl, rfl, rfl⟩ | ⟨h_26, h_27, rfl, rfl, rfl⟩
    · skip
      have hP : va_P D cl [(hm, .inr (1, [.ref a, .ref b, .ref qa, .ref qu, .ref qb, .ref qh, .ref qm])), (a, .inr (6, [.ref qk, .ref qp, .int (nI n), .int (bz fu), .int (bz fa)])), (qk, .inl (cB, 3000, .inl K)), (qp, .inl (cI, 18000, .inl P)), (b, .inr (6, [.ref qk2, .ref qp2, .int (nI n'_13), .int (bz fu'_16), .int (bz fa'_17)])), (qk2, .inl (cB, 3000, .inl K'_14)), (qp2, .inl (cI, 18000, .inl P'_15))] H := hP
      have hD : va_D A [(hm, .inr (1, [.ref a, .ref b, .ref qa, .ref qu, .ref qb, .ref qh, .ref qm])), (a, .inr (6, [.ref qk, .ref qp, .int (nI n), .int (bz fu), .int (bz fa)])), (qk, .inl (cB, 3000, .inl K)), (qp, .inl (cI, 18000, .inl P)), (b, .inr (6, [.ref qk2, .ref qp2, .int (nI n'_13), .int (bz fu'_16), .int (bz fa'_17)])), (qk2, .inl (cB, 3000, .inl K'_14)), (qp2, .inl (cI, 18000, .inl P'_15))] := hD
      refine W.eq (g2 := F0 m 44 ls [.int (-4)]) rfl ?_
      exact ct_reti hQ hx hb hr hlocks hP hD hS ((-4), a, b, qk, qp, n, K, P, fu, fa, qk2, qp2, n'_13, K'_14, P'_15, fu'_16, fa'_17) [(hm, .inr (1, [.ref a, .ref b, .ref qa, .ref qu, .ref qb, .ref qh, .ref qm])), (a, .inr (6, [.ref qk, .ref qp, .int (nI n), .int (bz fu), .int (bz fa)])), (qk, .inl (cB, 3000, .inl K)), (qp, .inl (cI, 18000, .inl P)), (b, .inr (6, [.ref qk2, .ref qp2, .int (nI n'_13), .int (bz fu'_16), .int (bz fa'_17)])), (qk2, .inl (cB, 3000, .inl K'_14)), (qp2, .inl (cI, 18000, .inl P'_15))] [0, 1, 2, 3, 4, 5, 6] (rfl) (⟨hn, by unfold rLine; rw [if_neg hz, setl_far hbg.2 h_23]⟩) (rfl) rfl rfl (by omega) (by omega) d_M_line_44
    · skip
      have hP : va_P D cl [(hm, .inr (1, [.ref a, .ref b, .ref qa, .ref qu, .ref qb, .ref qh, .ref qm])), (a, .inr (6, [.ref qk, .ref qp, .int (nI n), .int (bz fu), .int (bz fa)])), (qk, .inl (cB, 3000, .inl K)), (qp, .inl (cI, 18000, .inl P)), (b, .inr (6, [.ref qk2, .ref qp2, .int (nI n'_13), .int (bz fu'_16), .int (bz fa'_17)])), (qk2, .inl (cB, 3000, .inl K'_14)), (qp2, .inl (cI, 18000, .inl P'_15))] H := hP
      have hD : va_D A [(hm, .inr (1, [.ref a, .ref b, .ref qa, .ref qu, .ref qb, .ref qh, .ref qm])), (a, .inr (6, [.ref qk, .ref qp, .int (nI n), .int (bz fu), .int (bz fa)])), (qk, .inl (cB, 3000, .inl K)), (qp, .inl (cI, 18000, .inl P)), (b, .inr (6, [.ref qk2, .ref qp2, .int (nI n'_13), .int (bz fu'_16), .int (bz fa'_17)])), (qk2, .inl (cB, 3000, .inl K'_14)), (qp2, .inl (cI, 18000, .inl P'_15))] := hD
      refine W.eq (g2 := F0 m 44 ls [.int (-3)]) rfl ?_
      exact ct_reti hQ hx hb hr hlocks hP hD hS ((-3), a, b, qk, qp, n, K, P, fu, fa, qk2, qp2, n'_13, K'_14, P'_15, fu'_16, fa'_17) [(hm, .inr (1, [.ref a, .ref b, .ref qa, .ref qu, .ref qb, .ref qh, .ref qm])), (a, .inr (6, [.ref qk, .ref qp, .int (nI n), .int (bz fu), .int (bz fa)])), (qk, .inl (cB, 3000, .inl K)), (qp, .inl (cI, 18000, .inl P)), (b, .inr (6, [.ref qk2, .ref qp2, .int (nI n'_13), .int (bz fu'_16), .int (bz fa'_17)])), (qk2, .inl (cB, 3000, .inl K'_14)), (qp2, .inl (cI, 18000, .inl P'_15))] [0, 1, 2, 3, 4, 5, 6] (rfl) (⟨hn, by unfold rLine; rw [if_neg hz, setl_full hbg.2 h_24 h_25]⟩) (rfl) rfl rfl (by omega) (by omega) d_M_line_44
    · skip
      have hP : va_P D cl [(hm, .inr (1, [.ref b, .ref a, .ref qa, .ref qu, .ref qb, .ref qh, .ref qm])), (a, .inr (6, [.ref qk, .ref qp, .int (nI n), .int (bz fu), .int (bz fa)])), (qk, .inl (cB, 3000, .inl K)), (qp, .inl (cI, 18000, .inl P)), (b, .inr (6, [.ref qk2, .ref qp2, .int (nI n'_13), .int (bz fu'_16), .int (bz fa'_17)])), (qk2, .inl (cB, 3000, .inl K'_14)), (qp2, .inl (cI, 18000, .inl P'_15))] H := hP
      have hD : va_D A [(hm, .inr (1, [.ref b, .ref a, .ref qa, .ref qu, .ref qb, .ref qh, .ref qm])), (a, .inr (6, [.ref qk, .ref qp, .int (nI n), .int (bz fu), .int (bz fa)])), (qk, .inl (cB, 3000, .inl K)), (qp, .inl (cI, 18000, .inl P)), (b, .inr (6, [.ref qk2, .ref qp2, .int (nI n'_13), .int (bz fu'_16), .int (bz fa'_17)])), (qk2, .inl (cB, 3000, .inl K'_14)), (qp2, .inl (cI, 18000, .inl P'_15))] := hD
      refine W.eq (g2 := F0 m 44 ls [.int (nI n'_13)]) rfl ?_
      exact ct_reti hQ hx hb hr hlocks hP hD hS ((nI n'_13), b, a, qk2, qp2, n'_13, K'_14, P'_15, fu'_16, fa'_17, qk, qp, n, K, P, fu, fa) [(hm, .inr (1, [.ref b, .ref a, .ref qa, .ref qu, .ref qb, .ref qh, .ref qm])), (b, .inr (6, [.ref qk2, .ref qp2, .int (nI n'_13), .int (bz fu'_16), .int (bz fa'_17)])), (qk2, .inl (cB, 3000, .inl K'_14)), (qp2, .inl (cI, 18000, .inl P'_15)), (a, .inr (6, [.ref qk, .ref qp, .int (nI n), .int (bz fu), .int (bz fa)])), (qk, .inl (cB, 3000, .inl K)), (qp, .inl (cI, 18000, .inl P))] [0, 4, 5, 6, 1, 2, 3] (rfl) (⟨hbg.1, by unfold rLine; rw [if_neg hz, setl_ok hbg.2 h_26 h_27, lst_len]⟩) (rfl) rfl rfl (by omega) (by omega) d_M_line_44
  · skip
    refine lv_bipush (v := (-2)) hx hb d_M_line_7 (by decide) ?_
    exact ct_reti hQ hx hb hr hlocks hP hD hS ((-2), a, b, qk, qp, n, K, P, fu, fa, qk2, qp2, n2, K2, P2, fu2, fa2) [(hm, .inr (1, [.ref a, .ref b, .ref qa, .ref qu, .ref qb, .ref qh, .ref qm])), (a, .inr (6, [.ref qk, .ref qp, .int (nI n), .int (bz fu), .int (bz fa)])), (qk, .inl (cB, 3000, .inl K)), (qp, .inl (cI, 18000, .inl P)), (b, .inr (6, [.ref qk2, .ref qp2, .int (nI n2), .int (bz fu2), .int (bz fa2)])), (qk2, .inl (cB, 3000, .inl K2)), (qp2, .inl (cI, 18000, .inl P2))] [3, 4, 5, 6, 0, 1, 2] (rfl) (⟨hn, by unfold rLine; rw [if_pos (by rw [lst_len]; have := of_decide_eq_false c_2; omega)]⟩) (rfl) rfl rfl (by omega) (by omega) d_M_line_9
end
section
theorem ix_lt {x : Int32} {n : Nat} (h0 : ¬ x < 0) (h : ¬ nI n ≤ x) (hn : n < 2 ^ 31) : ∃ j : Nat, j < n ∧ x = nI j := by
  rcases pk_ix x hn with q | q | q
  · exact absurd q h0
  · exact absurd q h
  · exact q
theorem ix_le {x : Int32} {n : Nat} (h0 : ¬ x < 0) (h : ¬ nI n < x) (hn : n + 1 < 2 ^ 31) : ∃ j : Nat, j ≤ n ∧ x = nI j := by
  obtain ⟨j, hj, ej⟩ := nI_of h0
  refine ⟨j, ?_, ej⟩
  rw [ej] at h
  rcases Nat.lt_or_ge n j with q | q
  · exact absurd (nI_lt q hj) h
  · exact q
def pt0 : Pt := (0, 0, 0, 0, 0, 0, 0)
def cmp6 (q : Pt) (w : Nat) : Int32 := match w with | 0 => q.2.1 | 1 => q.2.2.1 | 2 => q.2.2.2.1 | 3 => q.2.2.2.2.1 | 4 => q.2.2.2.2.2.1 | _ => q.2.2.2.2.2.2
theorem cmp6_pt {K P : Nat → Int32} {j w : Nat} (h : w ≤ 5) : cmp6 (pt K P j) w = P (6 * j + w) := by
  match w, h with
  | 0, _ => rfl
  | 1, _ => rfl
  | 2, _ => rfl
  | 3, _ => rfl
  | 4, _ => rfl
  | 5, _ => rfl
theorem lst_getD {n : Nat} {K P : Nat → Int32} {j : Nat} (h : j < n) : (lst n K P).getD j pt0 = pt K P j := by
  rw [List.getD_eq_getElem?_getD, lst_get h]; rfl
def rPoint (ps : List Pt) (w : Int32) : Int32 := if ps.length = 0 then 0 else if w = 0 then lx ps else if w = 1 then ly ps else 0
def rKind (ps : List Pt) (i : Int32) : Int32 := if i < 0 ∨ nI ps.length ≤ i then -1 else (ps.getD i.toNatClampNeg pt0).1
def rPlace (ps : List Pt) (i w : Int32) : Int32 := if i < 0 ∨ nI ps.length ≤ i ∨ w < 0 ∨ 5 < w then 0 else if 1 < w ∧ ¬ (ps.getD i.toNatClampNeg pt0).1 = 2 then 0 else cmp6 (ps.getD i.toNatClampNeg pt0) w.toNatClampNeg
section RPL
variable {n : Nat} {K P : Nat → Int32} {j k : Nat}
theorem rKind_j (hj : j < n) (hn : n ≤ 3000) : rKind (lst n K P) (nI j) = K j := by
  unfold rKind
  rw [if_neg, nI_clamp (by omega), lst_getD hj]
  · rfl
  · rw [lst_len]
    rintro (h | h)
    · exact nI_pos (by omega) h
    · exact nI_ge hj (by omega) h
theorem rPlace_j (hj : j < n) (hn : n ≤ 3000) (hk : k ≤ 5) : rPlace (lst n K P) (nI j) (nI k) = if 1 < nI k ∧ ¬ K j = 2 then 0 else P (6 * j + k) := by
  unfold rPlace
  rw [if_neg, nI_clamp (by omega), lst_getD hj, nI_clamp (by omega), cmp6_pt hk]
  · rfl
  · rw [lst_len]
    rintro (h | h | h | h)
    · exact nI_pos (by omega) h
    · exact nI_ge hj (by omega) h
    · exact nI_pos (by omega) h
    · exact nI_nlt (a := 5) (b := k) hk (by decide) h
theorem rPlace_g (hj : j < n) (hn : n ≤ 3000) (hk : k ≤ 5) (h : nI k ≤ 1 ∨ K j = 2) : rPlace (lst n K P) (nI j) (nI k) = P (6 * j + k) := by
  rw [rPlace_j hj hn hk, if_neg]
  rintro ⟨h1, h2⟩
  rcases h with h | h
  · exact absurd h1 (Int32.not_lt.mpr h)
  · exact h2 h
theorem rPlace_z (hj : j < n) (hn : n ≤ 3000) (hk : k ≤ 5) (h1 : ¬ nI k ≤ 1) (h2 : ¬ K j = 2) : rPlace (lst n K P) (nI j) (nI k) = 0 := by
  rw [rPlace_j hj hn hk, if_pos ⟨Int32.not_le.mp h1, h2⟩]
end RPL
abbrev Ax4 : Type := Int64 × Int64 × Int64 × Int64
def ax4 (f : Nat → Int64) : Ax4 := (f 0, f 1, f 2, f 3)
def rAxes (ax : Ax4) (a b c d : Int32) : Bool × Ax4 := if fr a.toInt64 || fr b.toInt64 || fr c.toInt64 || fr d.toInt64 then (false, ax) else (true, (a.toInt64, b.toInt64, c.toInt64, d.toInt64))
theorem upL_s {f : Nat → Int64} {k : Nat} {x : Int64} : vp_updL f k x k = x := by simp [vp_updL]
theorem upL_n {f : Nat → Int64} {k j : Nat} {x : Int64} (h : j ≠ k) : vp_updL f k x j = f j := by simp [vp_updL, h]
end
section
set_option maxHeartbeats 4000000 in
set_option maxRecDepth 100000 in
/-- curve -/
theorem c_M_curve (l : Launch) (D : va_G) (cI cB cJ : ClassId) (qQ : Nat) (hm : Nat) (a : Nat) (b : Nat) (qa : Nat) (qu : Nat) (qb : Nat) (qh : Nat) (qm : Nat) (qk : Nat) (qp : Nat) (n : Nat) (K : Nat → Int32) (P : Nat → Int32) (fu : Bool) (fa : Bool) (qk2 : Nat) (qp2 : Nat) (n2 : Nat) (K2 : Nat → Int32) (P2 : Nat → Int32) (fu2 : Bool) (fa2 : Bool) (x1 : Int32) (y1 : Int32) (x2 : Int32) (y2 : Int32) (x3 : Int32) (y3 : Int32) (hn : n ≤ 3000) (hk : ∀ i, i < n → kok (K i)) (h0 : 0 < n → K 0 = 0) : ct l D cl [(cI, .int), (cB, .byte), (cJ, .long)] (amb qQ) y_M_curve w_M_curve 4 99 (0) (0) [.ref hm, .int x1, .int y1, .int x2, .int y2, .int x3, .int y3] [(hm, .inr (1, [.ref a, .ref b, .ref qa, .ref qu, .ref qb, .ref qh, .ref qm])), (a, .inr (6, [.ref qk, .ref qp, .int (nI n), .int (bz fu), .int (bz fa)])), (qk, .inl (cB, 3000, .inl K)), (qp, .inl (cI, 18000, .inl P)), (b, .inr (6, [.ref qk2, .ref qp2, .int (nI n2), .int (bz fu2), .int (bz fa2)])), (qk2, .inl (cB, 3000, .inl K2)), (qp2, .inl (cI, 18000, .inl P2))] (fun u_ : Int32 × Nat × Nat × Nat × Nat × Nat × (Nat → Int32) × (Nat → Int32) × Bool × Bool × Nat × Nat × Nat × (Nat → Int32) × (Nat → Int32) × Bool × Bool => match u_ with | (r, a', b', qk', qp', n', K', P', fu', fa', qk2', qp2', n2', K2', P2', fu2', fa2') => n' ≤ 3000 ∧ (r, lst n' K' P') = rCurve (lst n K P) x1 y1 x2 y2 x3 y3) (fun u_ : Int32 × Nat × Nat × Nat × Nat × Nat × (Nat → Int32) × (Nat → Int32) × Bool × Bool × Nat × Nat × Nat × (Nat → Int32) × (Nat → Int32) × Bool × Bool => match u_ with | (r, a', b', qk', qp', n', K', P', fu', fa', qk2', qp2', n2', K2', P2', fu2', fa2') => some (.int r)) (fun u_ : Int32 × Nat × Nat × Nat × Nat × Nat × (Nat → Int32) × (Nat → Int32) × Bool × Bool × Nat × Nat × Nat × (Nat → Int32) × (Nat → Int32) × Bool × Bool => match u_ with | (r, a', b', qk', qp', n', K', P', fu', fa', qk2', qp2', n2', K2', P2', fu2', fa2') => [(hm, .inr (1, [.ref a', .ref b', .ref qa, .ref qu, .ref qb, .ref qh, .ref qm])), (a', .inr (6, [.ref qk', .ref qp', .int (nI n'), .int (bz fu'), .int (bz fa')])), (qk', .inl (cB, 3000, .inl K')), (qp', .inl (cI, 18000, .inl P')), (b', .inr (6, [.ref qk2', .ref qp2', .int (nI n2'), .int (bz fu2'), .int (bz fa2')])), (qk2', .inl (cB, 3000, .inl K2')), (qp2', .inl (cI, 18000, .inl P2'))]) := by
  refine ct_ofW (cc := b_M_curve) (maxL := 7) (ret := (some .int)) (by decide) rfl (Nat.le_of_ble_eq_true rfl) ?_
  intro p e R s m args below meth c A Q ls hx hb hr hml hts hown hlocks hname hRf hRc hRs hRl hQ hK hP hD hS hA hM hl
  have hl : lv_has ls 7 [(0, .ref hm), (1, .int x1), (2, .int y1), (3, .int x2), (4, .int y2), (5, .int x3), (6, .int y3)] := hl
  refine lv_aload_n hx hb d_M_curve_0 rfl (lv_at hl 0 rfl) ?_
  refine ct_callV (ci := 1) (q0 := 0) (As := []) (rest := []) (wr := [(b, .inr (6, [.ref qk2, .ref qp2, .int (nI n2), .int (bz fu2), .int (bz fa2)])), (qk2, .inl (cB, 3000, .inl K2)), (qp2, .inl (cI, 18000, .inl P2))]) (n := 0) (c_M_isPoint l D cI cB cJ qQ hm a b qa qu qb qh qm qk qp n K P fu fa (hn)) hx hb hml hown hts (amb_ok qQ) hK hP hD hS hA hM (gi_V gw_600 gw_552 gw_553 gw_33 gw_554) rfl (by decide +kernel) ⟨by omega, by omega⟩ [0, 1, 2, 3] [4, 5, 6] rfl rfl rfl rfl (by decide) rfl rfl rfl hl.1 rfl (Nat.le_of_ble_eq_true rfl) d_M_curve_1 ⟨by omega, by omega⟩ (fun u_1 H locs hok hP hD hS => ?_)
  have hP : va_P D cl [(b, .inr (6, [.ref qk2, .ref qp2, .int (nI n2), .int (bz fu2), .int (bz fa2)])), (qk2, .inl (cB, 3000, .inl K2)), (qp2, .inl (cI, 18000, .inl P2)), (hm, .inr (1, [.ref a, .ref b, .ref qa, .ref qu, .ref qb, .ref qh, .ref qm])), (a, .inr (6, [.ref qk, .ref qp, .int (nI n), .int (bz fu), .int (bz fa)])), (qk, .inl (cB, 3000, .inl K)), (qp, .inl (cI, 18000, .inl P))] H := hP
  have hD : va_D A [(b, .inr (6, [.ref qk2, .ref qp2, .int (nI n2), .int (bz fu2), .int (bz fa2)])), (qk2, .inl (cB, 3000, .inl K2)), (qp2, .inl (cI, 18000, .inl P2)), (hm, .inr (1, [.ref a, .ref b, .ref qa, .ref qu, .ref qb, .ref qh, .ref qm])), (a, .inr (6, [.ref qk, .ref qp, .int (nI n), .int (bz fu), .int (bz fa)])), (qk, .inl (cB, 3000, .inl K)), (qp, .inl (cI, 18000, .inl P))] := hD
  refine W.eq (g2 := F0 m 4 ls [.int (bz (decide (0 < n)))]) rfl ?_
  refine bb_ne (tgt := 10) hx hb d_M_curve_4 (by decide) (fun c_2 => ?_) (fun c_2 => ?_)
  · skip
    have hz : ¬ (lst n K P).length = 0 := by rw [lst_len]; have := of_decide_eq_true c_2; omega
    refine lv_aload_n hx hb d_M_curve_10 rfl (lv_at hl 0 rfl) ?_
    refine va_get (D := D) (ci := 1) (v := .ref b) (C := R_M) (T := T_M) (N := 7) hx hb hts (ui_M _) hown hK hP 3 rfl rfl 1 (by decide) (hts _ (gwc gw_529)) (fun _ h9 => h9) rfl d_M_curve_11 ?_
    refine lv_aload_n hx hb d_M_curve_14 rfl (lv_at hl 0 rfl) ?_
    refine va_get (D := D) (ci := 1) (v := .ref a) (C := R_M) (T := T_M) (N := 7) hx hb hts (ui_M _) hown hK hP 3 rfl rfl 0 (by decide) (hts _ (gwc gw_528)) (fun _ h9 => h9) rfl d_M_curve_15 ?_
    refine ct_callV (ci := 6) (q0 := 0) (As := [.ref a]) (rest := []) (wr := [(hm, .inr (1, [.ref a, .ref b, .ref qa, .ref qu, .ref qb, .ref qh, .ref qm]))]) (n := 1) (c_MPath_copy l D cI cB cJ qQ b qk2 qp2 n2 K2 P2 fu2 fa2 a qk qp n K P fu fa (hn) (hk)) hx hb hml hown hts (amb_ok qQ) hK hP hD hS hA hM (gi_V gw_567 gw_568 gw_569 gw_34 gw_570) rfl (by decide +kernel) ⟨by omega, by omega⟩ [0, 1, 2, 4, 5, 6] [3] rfl rfl rfl rfl (by decide) rfl rfl rfl hl.1 rfl (Nat.le_of_ble_eq_true rfl) d_M_curve_18 ⟨by omega, by omega⟩ (fun u_3 H locs hok hP hD hS => ?_)
    obtain ⟨K'_4, P'_5⟩ := u_3
    have hcp : lst n K'_4 P'_5 = lst n K P := hok
    have hP : va_P D cl [(hm, .inr (1, [.ref a, .ref b, .ref qa, .ref qu, .ref qb, .ref qh, .ref qm])), (b, .inr (6, [.ref qk2, .ref qp2, .int (nI n), .int (bz false), .int (bz false)])), (qk2, .inl (cB, 3000, .inl K'_4)), (qp2, .inl (cI, 18000, .inl P'_5)), (a, .inr (6, [.ref qk, .ref qp, .int (nI n), .int (bz fu), .int (bz fa)])), (qk, .inl (cB, 3000, .inl K)), (qp, .inl (cI, 18000, .inl P))] H := hP
    have hD : va_D A [(hm, .inr (1, [.ref a, .ref b, .ref qa, .ref qu, .ref qb, .ref qh, .ref qm])), (b, .inr (6, [.ref qk2, .ref qp2, .int (nI n), .int (bz false), .int (bz false)])), (qk2, .inl (cB, 3000, .inl K'_4)), (qp2, .inl (cI, 18000, .inl P'_5)), (a, .inr (6, [.ref qk, .ref qp, .int (nI n), .int (bz fu), .int (bz fa)])), (qk, .inl (cB, 3000, .inl K)), (qp, .inl (cI, 18000, .inl P))] := hD
    refine W.eq (g2 := F0 m 21 ls []) rfl ?_
    refine lv_aload_n hx hb d_M_curve_21 rfl (lv_at hl 0 rfl) ?_
    refine va_get (D := D) (ci := 1) (v := .ref b) (C := R_M) (T := T_M) (N := 7) hx hb hts (ui_M _) hown hK hP 0 rfl rfl 1 (by decide) (hts _ (gwc gw_529)) (fun _ h9 => h9) rfl d_M_curve_22 ?_
    refine ct_callV (ci := 6) (q0 := 1) (As := []) (rest := []) (wr := [(hm, .inr (1, [.ref a, .ref b, .ref qa, .ref qu, .ref qb, .ref qh, .ref qm])), (a, .inr (6, [.ref qk, .ref qp, .int (nI n), .int (bz fu), .int (bz fa)])), (qk, .inl (cB, 3000, .inl K)), (qp, .inl (cI, 18000, .inl P))]) (n := 0) (c_MPath_open l D cI cB cJ qQ b qk2 qp2 n K'_4 P'_5 false false (hn)) hx hb hml hown hts (amb_ok qQ) hK hP hD hS hA hM (gi_V gw_601 gw_602 gw_603 gw_34 gw_604) rfl (by decide +kernel) ⟨by omega, by omega⟩ [1, 2, 3] [0, 4, 5, 6] rfl rfl rfl rfl (by decide) rfl rfl rfl hl.1 rfl (Nat.le_of_ble_eq_true rfl) d_M_curve_25 ⟨by omega, by omega⟩ (fun u_6 H locs hok hP hD hS => ?_)
    obtain ⟨n'_7, K'_8, P'_9, fu'_10, fa'_11⟩ := u_6
    have hop : n'_7 ≤ 3000 ∧ (lst n'_7 K'_8 P'_9, fu'_10, fa'_11) = openD (lst n K'_4 P'_5, false, false) := hok
    have hP : va_P D cl [(hm, .inr (1, [.ref a, .ref b, .ref qa, .ref qu, .ref qb, .ref qh, .ref qm])), (a, .inr (6, [.ref qk, .ref qp, .int (nI n), .int (bz fu), .int (bz fa)])), (qk, .inl (cB, 3000, .inl K)), (qp, .inl (cI, 18000, .inl P)), (b, .inr (6, [.ref qk2, .ref qp2, .int (nI n'_7), .int (bz fu'_10), .int (bz fa'_11)])), (qk2, .inl (cB, 3000, .inl K'_8)), (qp2, .inl (cI, 18000, .inl P'_9))] H := hP
    have hD : va_D A [(hm, .inr (1, [.ref a, .ref b, .ref qa, .ref qu, .ref qb, .ref qh, .ref qm])), (a, .inr (6, [.ref qk, .ref qp, .int (nI n), .int (bz fu), .int (bz fa)])), (qk, .inl (cB, 3000, .inl K)), (qp, .inl (cI, 18000, .inl P)), (b, .inr (6, [.ref qk2, .ref qp2, .int (nI n'_7), .int (bz fu'_10), .int (bz fa'_11)])), (qk2, .inl (cB, 3000, .inl K'_8)), (qp2, .inl (cI, 18000, .inl P'_9))] := hD
    refine W.eq (g2 := F0 m 28 ls []) rfl ?_
    rw [hcp] at hop
    refine lv_aload_n hx hb d_M_curve_28 rfl (lv_at hl 0 rfl) ?_
    refine va_get (D := D) (ci := 1) (v := .ref b) (C := R_M) (T := T_M) (N := 7) hx hb hts (ui_M _) hown hK hP 0 rfl rfl 1 (by decide) (hts _ (gwc gw_529)) (fun _ h9 => h9) rfl d_M_curve_29 ?_
    refine lv_iconst (v := 2) hx hb d_M_curve_32 (by decide) ?_
    refine lv_iload hx hb d_M_curve_33 (lv_at hl 5 rfl) ?_
    refine lv_i2l (v := x3.toInt64) hx hb d_M_curve_35 rfl ?_
    refine lv_iload hx hb d_M_curve_36 (lv_at hl 6 rfl) ?_
    refine lv_i2l (v := y3.toInt64) hx hb d_M_curve_38 rfl ?_
    refine lv_iload_n hx hb d_M_curve_39 rfl (lv_at hl 1 rfl) ?_
    refine lv_i2l (v := x1.toInt64) hx hb d_M_curve_40 rfl ?_
    refine lv_iload_n hx hb d_M_curve_41 rfl (lv_at hl 2 rfl) ?_
    refine lv_i2l (v := y1.toInt64) hx hb d_M_curve_42 rfl ?_
    refine lv_iload_n hx hb d_M_curve_43 rfl (lv_at hl 3 rfl) ?_
    refine lv_i2l (v := x2.toInt64) hx hb d_M_curve_44 rfl ?_
    refine lv_iload hx hb d_M_curve_45 (lv_at hl 4 rfl) ?_
    refine lv_i2l (v := y2.toInt64) hx hb d_M_curve_47 rfl ?_
    refine ct_callV (ci := 6) (q0 := 4) (As := [.int 2, .long x3.toInt64, .long y3.toInt64, .long x1.toInt64, .long y1.toInt64, .long x2.toInt64, .long y2.toInt64]) (rest := []) (wr := [(hm, .inr (1, [.ref a, .ref b, .ref qa, .ref qu, .ref qb, .ref qh, .ref qm])), (a, .inr (6, [.ref qk, .ref qp, .int (nI n), .int (bz fu), .int (bz fa)])), (qk, .inl (cB, 3000, .inl K)), (qp, .inl (cI, 18000, .inl P))]) (n := 7) (c_MPath_add l D cI cB cJ qQ b qk2 qp2 n'_7 K'_8 P'_9 fu'_10 fa'_11 2 x3.toInt64 y3.toInt64 x1.toInt64 y1.toInt64 x2.toInt64 y2.toInt64 (hop.1) (kok2)) hx hb hml hown hts (amb_ok qQ) hK hP hD hS hA hM (gi_V gw_611 gw_584 gw_585 gw_34 gw_586) rfl (by decide +kernel) ⟨by omega, by omega⟩ [4, 5, 6] [0, 1, 2, 3] rfl rfl rfl rfl (by decide) rfl rfl rfl hl.1 rfl (Nat.le_of_ble_eq_true rfl) d_M_curve_48 ⟨by omega, by omega⟩ (fun u_12 H locs hok hP hD hS => ?_)
    obtain ⟨n'_13, K'_14, P'_15, fu'_16, fa'_17⟩ := u_12
    have hbg : n'_13 ≤ 3000 ∧ (lst n'_13 K'_14 P'_15, fu'_16, fa'_17) = addD (lst n'_7 K'_8 P'_9, fu'_10, fa'_11) 2 x3.toInt64 y3.toInt64 x1.toInt64 y1.toInt64 x2.toInt64 y2.toInt64 := hok
    have hP : va_P D cl [(hm, .inr (1, [.ref a, .ref b, .ref qa, .ref qu, .ref qb, .ref qh, .ref qm])), (a, .inr (6, [.ref qk, .ref qp, .int (nI n), .int (bz fu), .int (bz fa)])), (qk, .inl (cB, 3000, .inl K)), (qp, .inl (cI, 18000, .inl P)), (b, .inr (6, [.ref qk2, .ref qp2, .int (nI n'_13), .int (bz fu'_16), .int (bz fa'_17)])), (qk2, .inl (cB, 3000, .inl K'_14)), (qp2, .inl (cI, 18000, .inl P'_15))] H := hP
    have hD : va_D A [(hm, .inr (1, [.ref a, .ref b, .ref qa, .ref qu, .ref qb, .ref qh, .ref qm])), (a, .inr (6, [.ref qk, .ref qp, .int (nI n), .int (bz fu), .int (bz fa)])), (qk, .inl (cB, 3000, .inl K)), (qp, .inl (cI, 18000, .inl P)), (b, .inr (6, [.ref qk2, .ref qp2, .int (nI n'_13), .int (bz fu'_16), .int (bz fa'_17)])), (qk2, .inl (cB, 3000, .inl K'_14)), (qp2, .inl (cI, 18000, .inl P'_15))] := hD
    refine W.eq (g2 := F0 m 51 ls []) rfl ?_
    rw [hop.2] at hbg
    refine lv_aload_n hx hb d_M_curve_51 rfl (lv_at hl 0 rfl) ?_
    refine ct_callV (ci := 1) (q0 := 0) (As := []) (rest := []) (wr := []) (n := 0) (c_M_settle l D cI cB cJ qQ hm a b qa qu qb qh qm qk qp n K P fu fa qk2 qp2 n'_13 K'_14 P'_15 fu'_16 fa'_17 ) hx hb hml hown hts (amb_ok qQ) hK hP hD hS hA hM (gi_V gw_592 gw_594 gw_18 gw_33 gw_595) rfl (by decide +kernel) ⟨by omega, by omega⟩ [0, 1, 2, 3, 4, 5, 6] [] rfl rfl rfl rfl (by decide) rfl rfl rfl hl.1 rfl (Nat.le_of_ble_eq_true rfl) d_M_curve_52 ⟨by omega, by omega⟩ (fun u_18 H locs hok hP hD hS => ?_)
    obtain ⟨r_19, a'_20, b'_21⟩ := u_18
    have hok_22 : ((fa'_17 = true) ∧ (-4) = r_19 ∧ a = a'_20 ∧ b = b'_21) ∨ ((fa'_17 = false) ∧ (fu'_16 = true) ∧ (-3) = r_19 ∧ a = a'_20 ∧ b = b'_21) ∨ ((fa'_17 = false) ∧ (fu'_16 = false) ∧ nI n'_13 = r_19 ∧ b = a'_20 ∧ a = b'_21) := hok
    rcases hok_22 with ⟨h_23, rfl, rfl, rfl⟩ | ⟨h_24, h_25, rfl, rfl, rfl⟩ | ⟨h_26, h_27, rfl, rfl, rfl⟩
    · skip
      have hP : va_P D cl [(hm, .inr (1, [.ref a, .ref b, .ref qa, .ref qu, .ref qb, .ref qh, .ref qm])), (a, .inr (6, [.ref qk, .ref qp, .int (nI n), .int (bz fu), .int (bz fa)])), (qk, .inl (cB, 3000, .inl K)), (qp, .inl (cI, 18000, .inl P)), (b, .inr (6, [.ref qk2, .ref qp2, .int (nI n'_13), .int (bz fu'_16), .int (bz fa'_17)])), (qk2, .inl (cB, 3000, .inl K'_14)), (qp2, .inl (cI, 18000, .inl P'_15))] H := hP
      have hD : va_D A [(hm, .inr (1, [.ref a, .ref b, .ref qa, .ref qu, .ref qb, .ref qh, .ref qm])), (a, .inr (6, [.ref qk, .ref qp, .int (nI n), .int (bz fu), .int (bz fa)])), (qk, .inl (cB, 3000, .inl K)), (qp, .inl (cI, 18000, .inl P)), (b, .inr (6, [.ref qk2, .ref qp2, .int (nI n'_13), .int (bz fu'_16), .int (bz fa'_17)])), (qk2, .inl (cB, 3000, .inl K'_14)), (qp2, .inl (cI, 18000, .inl P'_15))] := hD
      refine W.eq (g2 := F0 m 55 ls [.int (-4)]) rfl ?_
      exact ct_reti hQ hx hb hr hlocks hP hD hS ((-4), a, b, qk, qp, n, K, P, fu, fa, qk2, qp2, n'_13, K'_14, P'_15, fu'_16, fa'_17) [(hm, .inr (1, [.ref a, .ref b, .ref qa, .ref qu, .ref qb, .ref qh, .ref qm])), (a, .inr (6, [.ref qk, .ref qp, .int (nI n), .int (bz fu), .int (bz fa)])), (qk, .inl (cB, 3000, .inl K)), (qp, .inl (cI, 18000, .inl P)), (b, .inr (6, [.ref qk2, .ref qp2, .int (nI n'_13), .int (bz fu'_16), .int (bz fa'_17)])), (qk2, .inl (cB, 3000, .inl K'_14)), (qp2, .inl (cI, 18000, .inl P'_15))] [0, 1, 2, 3, 4, 5, 6] (rfl) (⟨hn, by unfold rCurve; rw [if_neg hz, setl_far hbg.2 h_23]⟩) (rfl) rfl rfl (by omega) (by omega) d_M_curve_55
    · skip
      have hP : va_P D cl [(hm, .inr (1, [.ref a, .ref b, .ref qa, .ref qu, .ref qb, .ref qh, .ref qm])), (a, .inr (6, [.ref qk, .ref qp, .int (nI n), .int (bz fu), .int (bz fa)])), (qk, .inl (cB, 3000, .inl K)), (qp, .inl (cI, 18000, .inl P)), (b, .inr (6, [.ref qk2, .ref qp2, .int (nI n'_13), .int (bz fu'_16), .int (bz fa'_17)])), (qk2, .inl (cB, 3000, .inl K'_14)), (qp2, .inl (cI, 18000, .inl P'_15))] H := hP
      have hD : va_D A [(hm, .inr (1, [.ref a, .ref b, .ref qa, .ref qu, .ref qb, .ref qh, .ref qm])), (a, .inr (6, [.ref qk, .ref qp, .int (nI n), .int (bz fu), .int (bz fa)])), (qk, .inl (cB, 3000, .inl K)), (qp, .inl (cI, 18000, .inl P)), (b, .inr (6, [.ref qk2, .ref qp2, .int (nI n'_13), .int (bz fu'_16), .int (bz fa'_17)])), (qk2, .inl (cB, 3000, .inl K'_14)), (qp2, .inl (cI, 18000, .inl P'_15))] := hD
      refine W.eq (g2 := F0 m 55 ls [.int (-3)]) rfl ?_
      exact ct_reti hQ hx hb hr hlocks hP hD hS ((-3), a, b, qk, qp, n, K, P, fu, fa, qk2, qp2, n'_13, K'_14, P'_15, fu'_16, fa'_17) [(hm, .inr (1, [.ref a, .ref b, .ref qa, .ref qu, .ref qb, .ref qh, .ref qm])), (a, .inr (6, [.ref qk, .ref qp, .int (nI n), .int (bz fu), .int (bz fa)])), (qk, .inl (cB, 3000, .inl K)), (qp, .inl (cI, 18000, .inl P)), (b, .inr (6, [.ref qk2, .ref qp2, .int (nI n'_13), .int (bz fu'_16), .int (bz fa'_17)])), (qk2, .inl (cB, 3000, .inl K'_14)), (qp2, .inl (cI, 18000, .inl P'_15))] [0, 1, 2, 3, 4, 5, 6] (rfl) (⟨hn, by unfold rCurve; rw [if_neg hz, setl_full hbg.2 h_24 h_25]⟩) (rfl) rfl rfl (by omega) (by omega) d_M_curve_55
    · skip
      have hP : va_P D cl [(hm, .inr (1, [.ref b, .ref a, .ref qa, .ref qu, .ref qb, .ref qh, .ref qm])), (a, .inr (6, [.ref qk, .ref qp, .int (nI n), .int (bz fu), .int (bz fa)])), (qk, .inl (cB, 3000, .inl K)), (qp, .inl (cI, 18000, .inl P)), (b, .inr (6, [.ref qk2, .ref qp2, .int (nI n'_13), .int (bz fu'_16), .int (bz fa'_17)])), (qk2, .inl (cB, 3000, .inl K'_14)), (qp2, .inl (cI, 18000, .inl P'_15))] H := hP
      have hD : va_D A [(hm, .inr (1, [.ref b, .ref a, .ref qa, .ref qu, .ref qb, .ref qh, .ref qm])), (a, .inr (6, [.ref qk, .ref qp, .int (nI n), .int (bz fu), .int (bz fa)])), (qk, .inl (cB, 3000, .inl K)), (qp, .inl (cI, 18000, .inl P)), (b, .inr (6, [.ref qk2, .ref qp2, .int (nI n'_13), .int (bz fu'_16), .int (bz fa'_17)])), (qk2, .inl (cB, 3000, .inl K'_14)), (qp2, .inl (cI, 18000, .inl P'_15))] := hD
      refine W.eq (g2 := F0 m 55 ls [.int (nI n'_13)]) rfl ?_
      exact ct_reti hQ hx hb hr hlocks hP hD hS ((nI n'_13), b, a, qk2, qp2, n'_13, K'_14, P'_15, fu'_16, fa'_17, qk, qp, n, K, P, fu, fa) [(hm, .inr (1, [.ref b, .ref a, .ref qa, .ref qu, .ref qb, .ref qh, .ref qm])), (b, .inr (6, [.ref qk2, .ref qp2, .int (nI n'_13), .int (bz fu'_16), .int (bz fa'_17)])), (qk2, .inl (cB, 3000, .inl K'_14)), (qp2, .inl (cI, 18000, .inl P'_15)), (a, .inr (6, [.ref qk, .ref qp, .int (nI n), .int (bz fu), .int (bz fa)])), (qk, .inl (cB, 3000, .inl K)), (qp, .inl (cI, 18000, .inl P))] [0, 4, 5, 6, 1, 2, 3] (rfl) (⟨hbg.1, by unfold rCurve; rw [if_neg hz, setl_ok hbg.2 h_26 h_27, lst_len]⟩) (rfl) rfl rfl (by omega) (by omega) d_M_curve_55
  · skip
    refine lv_bipush (v := (-2)) hx hb d_M_curve_7 (by decide) ?_
    exact ct_reti hQ hx hb hr hlocks hP hD hS ((-2), a, b, qk, qp, n, K, P, fu, fa, qk2, qp2, n2, K2, P2, fu2, fa2) [(hm, .inr (1, [.ref a, .ref b, .ref qa, .ref qu, .ref qb, .ref qh, .ref qm])), (a, .inr (6, [.ref qk, .ref qp, .int (nI n), .int (bz fu), .int (bz fa)])), (qk, .inl (cB, 3000, .inl K)), (qp, .inl (cI, 18000, .inl P)), (b, .inr (6, [.ref qk2, .ref qp2, .int (nI n2), .int (bz fu2), .int (bz fa2)])), (qk2, .inl (cB, 3000, .inl K2)), (qp2, .inl (cI, 18000, .inl P2))] [3, 4, 5, 6, 0, 1, 2] (rfl) (⟨hn, by unfold rCurve; rw [if_pos (by rw [lst_len]; have := of_decide_eq_false c_2; omega)]⟩) (rfl) rfl rfl (by omega) (by omega) d_M_curve_9
set_option maxHeartbeats 4000000 in
set_option maxRecDepth 100000 in
/-- close -/
theorem c_M_close (l : Launch) (D : va_G) (cI cB cJ : ClassId) (qQ : Nat) (hm : Nat) (a : Nat) (b : Nat) (qa : Nat) (qu : Nat) (qb : Nat) (qh : Nat) (qm : Nat) (qk : Nat) (qp : Nat) (n : Nat) (K : Nat → Int32) (P : Nat → Int32) (fu : Bool) (fa : Bool) (qk2 : Nat) (qp2 : Nat) (n2 : Nat) (K2 : Nat → Int32) (P2 : Nat → Int32) (fu2 : Bool) (fa2 : Bool) (hn : n ≤ 3000) (hk : ∀ i, i < n → kok (K i)) (h0 : 0 < n → K 0 = 0) : ct l D cl [(cI, .int), (cB, .byte), (cJ, .long)] (amb qQ) y_M_close w_M_close 3 79 (0) (0) [.ref hm] [(hm, .inr (1, [.ref a, .ref b, .ref qa, .ref qu, .ref qb, .ref qh, .ref qm])), (a, .inr (6, [.ref qk, .ref qp, .int (nI n), .int (bz fu), .int (bz fa)])), (qk, .inl (cB, 3000, .inl K)), (qp, .inl (cI, 18000, .inl P)), (b, .inr (6, [.ref qk2, .ref qp2, .int (nI n2), .int (bz fu2), .int (bz fa2)])), (qk2, .inl (cB, 3000, .inl K2)), (qp2, .inl (cI, 18000, .inl P2))] (fun u_ : Int32 × Nat × Nat × Nat × Nat × Nat × (Nat → Int32) × (Nat → Int32) × Bool × Bool × Nat × Nat × Nat × (Nat → Int32) × (Nat → Int32) × Bool × Bool => match u_ with | (r, a', b', qk', qp', n', K', P', fu', fa', qk2', qp2', n2', K2', P2', fu2', fa2') => n' ≤ 3000 ∧ (r, lst n' K' P') = rClose (lst n K P)) (fun u_ : Int32 × Nat × Nat × Nat × Nat × Nat × (Nat → Int32) × (Nat → Int32) × Bool × Bool × Nat × Nat × Nat × (Nat → Int32) × (Nat → Int32) × Bool × Bool => match u_ with | (r, a', b', qk', qp', n', K', P', fu', fa', qk2', qp2', n2', K2', P2', fu2', fa2') => some (.int r)) (fun u_ : Int32 × Nat × Nat × Nat × Nat × Nat × (Nat → Int32) × (Nat → Int32) × Bool × Bool × Nat × Nat × Nat × (Nat → Int32) × (Nat → Int32) × Bool × Bool => match u_ with | (r, a', b', qk', qp', n', K', P', fu', fa', qk2', qp2', n2', K2', P2', fu2', fa2') => [(hm, .inr (1, [.ref a', .ref b', .ref qa, .ref qu, .ref qb, .ref qh, .ref qm])), (a', .inr (6, [.ref qk', .ref qp', .int (nI n'), .int (bz fu'), .int (bz fa')])), (qk', .inl (cB, 3000, .inl K')), (qp', .inl (cI, 18000, .inl P')), (b', .inr (6, [.ref qk2', .ref qp2', .int (nI n2'), .int (bz fu2'), .int (bz fa2')])), (qk2', .inl (cB, 3000, .inl K2')), (qp2', .inl (cI, 18000, .inl P2'))]) := by
  refine ct_ofW (cc := b_M_close) (maxL := 2) (ret := (some .int)) (by decide) rfl (Nat.le_of_ble_eq_true rfl) ?_
  intro p e R s m args below meth c A Q ls hx hb hr hml hts hown hlocks hname hRf hRc hRs hRl hQ hK hP hD hS hA hM hl
  have hl : lv_has ls 2 [(0, .ref hm)] := hl
  refine lv_aload_n hx hb d_M_close_0 rfl (lv_at hl 0 rfl) ?_
  refine va_get (D := D) (ci := 1) (v := .ref a) (C := R_M) (T := T_M) (N := 7) hx hb hts (ui_M _) hown hK hP 0 rfl rfl 0 (by decide) (hts _ (gwc gw_528)) (fun _ h9 => h9) rfl d_M_close_1 ?_
  refine va_getN (D := D) (ci := 6) (v := .int (nI n)) (C := R_MPath) (T := T_MPath) (N := 5) hx hb hts (ui_MPath _) hown hK hP 1 rfl rfl 2 (by decide) ((amb_nw_11 hM).use rfl) (fun _ h9 => h9) rfl d_M_close_4 ?_
  refine bz_eq (a1 := n) (tgt := 31) hx hb (by omega) d_M_close_7 (by decide) (fun c_1 => ?_) (fun c_1 => ?_)
  · skip
    refine lv_aload_n hx hb d_M_close_31 rfl (lv_at hl 0 rfl) ?_
    refine va_get (D := D) (ci := 1) (v := .ref a) (C := R_M) (T := T_M) (N := 7) hx hb hts (ui_M _) hown hK hP 0 rfl rfl 0 (by decide) (hts _ (gwc gw_528)) (fun _ h9 => h9) rfl d_M_close_32 ?_
    refine va_getN (D := D) (ci := 6) (v := .int (nI n)) (C := R_MPath) (T := T_MPath) (N := 5) hx hb hts (ui_MPath _) hown hK hP 1 rfl rfl 2 (by decide) ((amb_nw_11 hM).use rfl) (fun _ h9 => h9) rfl d_M_close_35 ?_
    exact ct_reti hQ hx hb hr hlocks hP hD hS (nI n, a, b, qk, qp, n, K, P, fu, fa, qk2, qp2, n2, K2, P2, fu2, fa2) [(hm, .inr (1, [.ref a, .ref b, .ref qa, .ref qu, .ref qb, .ref qh, .ref qm])), (a, .inr (6, [.ref qk, .ref qp, .int (nI n), .int (bz fu), .int (bz fa)])), (qk, .inl (cB, 3000, .inl K)), (qp, .inl (cI, 18000, .inl P)), (b, .inr (6, [.ref qk2, .ref qp2, .int (nI n2), .int (bz fu2), .int (bz fa2)])), (qk2, .inl (cB, 3000, .inl K2)), (qp2, .inl (cI, 18000, .inl P2))] [0, 1, 2, 3, 4, 5, 6] (rfl) (⟨hn, by unfold rClose; rw [if_pos (Or.inl (by rw [lst_len]; exact c_1)), lst_len]⟩) (rfl) rfl rfl (by omega) (by omega) d_M_close_38
  · skip
    refine lv_aload_n hx hb d_M_close_10 rfl (lv_at hl 0 rfl) ?_
    refine va_get (D := D) (ci := 1) (v := .ref a) (C := R_M) (T := T_M) (N := 7) hx hb hts (ui_M _) hown hK hP 0 rfl rfl 0 (by decide) (hts _ (gwc gw_528)) (fun _ h9 => h9) rfl d_M_close_11 ?_
    refine va_getN (D := D) (ci := 6) (v := .ref qk) (C := R_MPath) (T := T_MPath) (N := 5) hx hb hts (ui_MPath _) hown hK hP 1 rfl rfl 0 (by decide) ((amb_nw_10 hM).use rfl) (fun _ h9 => h9) rfl d_M_close_14 ?_
    refine lv_aload_n hx hb d_M_close_17 rfl (lv_at hl 0 rfl) ?_
    refine va_get (D := D) (ci := 1) (v := .ref a) (C := R_M) (T := T_M) (N := 7) hx hb hts (ui_M _) hown hK hP 0 rfl rfl 0 (by decide) (hts _ (gwc gw_528)) (fun _ h9 => h9) rfl d_M_close_18 ?_
    refine va_getN (D := D) (ci := 6) (v := .int (nI n)) (C := R_MPath) (T := T_MPath) (N := 5) hx hb hts (ui_MPath _) hown hK hP 1 rfl rfl 2 (by decide) ((amb_nw_11 hM).use rfl) (fun _ h9 => h9) rfl d_M_close_21 ?_
    refine lv_iconst (v := 1) hx hb d_M_close_24 (by decide) ?_
    refine lv_isub hx hb d_M_close_25 ?_
    refine tp_i (nI (n - 1)) (pk_sub (a := n) (b := 1) (by omega)) ?_
    refine ld_b hx hb hK hP 2 1 rfl rfl (n - 1) (by omega) (by omega) d_M_close_26 ?_
    refine lv_iconst (v := 3) hx hb d_M_close_27 (by decide) ?_
    refine lv_icmp_ne (tgt := 39) hx hb d_M_close_28 (by decide) (fun c_2 => ?_) (fun c_2 => ?_)
    · skip
      have hz : ¬ ((lst n K P).length = 0 ∨ lk (lst n K P) = 3) := by
        rw [lst_len, lk_n c_1]
        rintro (q | q)
        · omega
        · exact c_2 q
      refine lv_aload_n hx hb d_M_close_39 rfl (lv_at hl 0 rfl) ?_
      refine va_get (D := D) (ci := 1) (v := .ref b) (C := R_M) (T := T_M) (N := 7) hx hb hts (ui_M _) hown hK hP 0 rfl rfl 1 (by decide) (hts _ (gwc gw_529)) (fun _ h9 => h9) rfl d_M_close_40 ?_
      refine lv_aload_n hx hb d_M_close_43 rfl (lv_at hl 0 rfl) ?_
      refine va_get (D := D) (ci := 1) (v := .ref a) (C := R_M) (T := T_M) (N := 7) hx hb hts (ui_M _) hown hK hP 0 rfl rfl 0 (by decide) (hts _ (gwc gw_528)) (fun _ h9 => h9) rfl d_M_close_44 ?_
      refine ct_callV (ci := 6) (q0 := 4) (As := [.ref a]) (rest := []) (wr := [(hm, .inr (1, [.ref a, .ref b, .ref qa, .ref qu, .ref qb, .ref qh, .ref qm]))]) (n := 1) (c_MPath_copy l D cI cB cJ qQ b qk2 qp2 n2 K2 P2 fu2 fa2 a qk qp n K P fu fa (hn) (hk)) hx hb hml hown hts (amb_ok qQ) hK hP hD hS hA hM (gi_V gw_567 gw_568 gw_569 gw_34 gw_570) rfl (by decide +kernel) ⟨by omega, by omega⟩ [4, 5, 6, 1, 2, 3] [0] rfl rfl rfl rfl (by decide) rfl rfl rfl hl.1 rfl (Nat.le_of_ble_eq_true rfl) d_M_close_47 ⟨by omega, by omega⟩ (fun u_3 H locs hok hP hD hS => ?_)
      obtain ⟨K'_4, P'_5⟩ := u_3
      have hcp : lst n K'_4 P'_5 = lst n K P := hok
      have hP : va_P D cl [(hm, .inr (1, [.ref a, .ref b, .ref qa, .ref qu, .ref qb, .ref qh, .ref qm])), (b, .inr (6, [.ref qk2, .ref qp2, .int (nI n), .int (bz false), .int (bz false)])), (qk2, .inl (cB, 3000, .inl K'_4)), (qp2, .inl (cI, 18000, .inl P'_5)), (a, .inr (6, [.ref qk, .ref qp, .int (nI n), .int (bz fu), .int (bz fa)])), (qk, .inl (cB, 3000, .inl K)), (qp, .inl (cI, 18000, .inl P))] H := hP
      have hD : va_D A [(hm, .inr (1, [.ref a, .ref b, .ref qa, .ref qu, .ref qb, .ref qh, .ref qm])), (b, .inr (6, [.ref qk2, .ref qp2, .int (nI n), .int (bz false), .int (bz false)])), (qk2, .inl (cB, 3000, .inl K'_4)), (qp2, .inl (cI, 18000, .inl P'_5)), (a, .inr (6, [.ref qk, .ref qp, .int (nI n), .int (bz fu), .int (bz fa)])), (qk, .inl (cB, 3000, .inl K)), (qp, .inl (cI, 18000, .inl P))] := hD
      refine W.eq (g2 := F0 m 50 ls []) rfl ?_
      refine lv_aload_n hx hb d_M_close_50 rfl (lv_at hl 0 rfl) ?_
      refine va_get (D := D) (ci := 1) (v := .ref a) (C := R_M) (T := T_M) (N := 7) hx hb hts (ui_M _) hown hK hP 0 rfl rfl 0 (by decide) (hts _ (gwc gw_528)) (fun _ h9 => h9) rfl d_M_close_51 ?_
      refine lv_aload_n hx hb d_M_close_54 rfl (lv_at hl 0 rfl) ?_
      refine va_get (D := D) (ci := 1) (v := .ref a) (C := R_M) (T := T_M) (N := 7) hx hb hts (ui_M _) hown hK hP 0 rfl rfl 0 (by decide) (hts _ (gwc gw_528)) (fun _ h9 => h9) rfl d_M_close_55 ?_
      refine va_getN (D := D) (ci := 6) (v := .int (nI n)) (C := R_MPath) (T := T_MPath) (N := 5) hx hb hts (ui_MPath _) hown hK hP 4 rfl rfl 2 (by decide) ((amb_nw_11 hM).use rfl) (fun _ h9 => h9) rfl d_M_close_58 ?_
      refine lv_iconst (v := 1) hx hb d_M_close_61 (by decide) ?_
      refine lv_isub hx hb d_M_close_62 ?_
      refine tp_i (nI (n - 1)) (pk_sub (a := n) (b := 1) (by omega)) ?_
      refine ct_callV (ci := 6) (q0 := 4) (As := [.int (nI (n - 1))]) (rest := []) (wr := [(hm, .inr (1, [.ref a, .ref b, .ref qa, .ref qu, .ref qb, .ref qh, .ref qm])), (b, .inr (6, [.ref qk2, .ref qp2, .int (nI n), .int (bz false), .int (bz false)])), (qk2, .inl (cB, 3000, .inl K'_4)), (qp2, .inl (cI, 18000, .inl P'_5))]) (n := 1) (c_MPath_first l D cI cB cJ qQ a qk qp n K P fu fa (n - 1) (by omega) (h0 (by omega))) hx hb hml hown hts (amb_ok qQ) hK hP hD hS hA hM (gi_V gw_616 gw_617 gw_618 gw_34 gw_619) rfl (by decide +kernel) ⟨by omega, by omega⟩ [4, 5, 6] [0, 1, 2, 3] rfl rfl rfl rfl (by decide) rfl rfl rfl hl.1 rfl (Nat.le_of_ble_eq_true rfl) d_M_close_63 ⟨by omega, by omega⟩ (fun u_6 H locs hok hP hD hS => ?_)
      obtain ⟨r_7, er_7⟩ : ∃ z, z = u_6 := ⟨_, rfl⟩
      subst er_7
      have hfi : r_7 ≤ (n - 1) ∧ K r_7 = 0 ∧ ∀ j, r_7 < j → j ≤ (n - 1) → ¬ K j = 0 := hok
      have hP : va_P D cl [(hm, .inr (1, [.ref a, .ref b, .ref qa, .ref qu, .ref qb, .ref qh, .ref qm])), (b, .inr (6, [.ref qk2, .ref qp2, .int (nI n), .int (bz false), .int (bz false)])), (qk2, .inl (cB, 3000, .inl K'_4)), (qp2, .inl (cI, 18000, .inl P'_5)), (a, .inr (6, [.ref qk, .ref qp, .int (nI n), .int (bz fu), .int (bz fa)])), (qk, .inl (cB, 3000, .inl K)), (qp, .inl (cI, 18000, .inl P))] H := hP
      have hD : va_D A [(hm, .inr (1, [.ref a, .ref b, .ref qa, .ref qu, .ref qb, .ref qh, .ref qm])), (b, .inr (6, [.ref qk2, .ref qp2, .int (nI n), .int (bz false), .int (bz false)])), (qk2, .inl (cB, 3000, .inl K'_4)), (qp2, .inl (cI, 18000, .inl P'_5)), (a, .inr (6, [.ref qk, .ref qp, .int (nI n), .int (bz fu), .int (bz fa)])), (qk, .inl (cB, 3000, .inl K)), (qp, .inl (cI, 18000, .inl P))] := hD
      refine W.eq (g2 := F0 m 66 ls [.int (nI r_7)]) rfl ?_
      have hlb := lb_n (P := P) (show _ < n by omega) hfi.2.1 (fun j h1 h2 => hfi.2.2 j h1 (by omega))
      have hq0 : P (6 * r_7 + 0) = (lb (lst n K P)).2.1 := by rw [hlb]; rfl
      have hq1 : P (6 * r_7 + 1) = (lb (lst n K P)).2.2.1 := by rw [hlb]; rfl
      refine lv_istore_n (lv' := [(1, .int (nI r_7)), (0, .ref hm)]) hx hb d_M_close_66 rfl hl (by decide) rfl (fun ls hl => ?_)
      refine lv_aload_n hx hb d_M_close_67 rfl (lv_at hl 1 rfl) ?_
      refine va_get (D := D) (ci := 1) (v := .ref b) (C := R_M) (T := T_M) (N := 7) hx hb hts (ui_M _) hown hK hP 0 rfl rfl 1 (by decide) (hts _ (gwc gw_529)) (fun _ h9 => h9) rfl d_M_close_68 ?_
      refine lv_iconst (v := 3) hx hb d_M_close_71 (by decide) ?_
      refine lv_aload_n hx hb d_M_close_72 rfl (lv_at hl 1 rfl) ?_
      refine va_get (D := D) (ci := 1) (v := .ref a) (C := R_M) (T := T_M) (N := 7) hx hb hts (ui_M _) hown hK hP 0 rfl rfl 0 (by decide) (hts _ (gwc gw_528)) (fun _ h9 => h9) rfl d_M_close_73 ?_
      refine lv_iload_n hx hb d_M_close_76 rfl (lv_at hl 0 rfl) ?_
      refine lv_iconst (v := 0) hx hb d_M_close_77 (by decide) ?_
      refine ct_callV (ci := 6) (q0 := 4) (As := [.int (nI r_7), .int 0]) (rest := [.int 3, .ref b]) (wr := [(hm, .inr (1, [.ref a, .ref b, .ref qa, .ref qu, .ref qb, .ref qh, .ref qm])), (b, .inr (6, [.ref qk2, .ref qp2, .int (nI n), .int (bz false), .int (bz false)])), (qk2, .inl (cB, 3000, .inl K'_4)), (qp2, .inl (cI, 18000, .inl P'_5))]) (n := 2) (c_MPath_get l D cI cB cJ qQ a qk qp n K P fu fa r_7 0 (by omega) (by omega)) hx hb hml hown hts (amb_ok qQ) hK hP hD hS hA hM (gi_V gw_559 gw_560 gw_561 gw_34 gw_562) rfl (by decide +kernel) ⟨by omega, by omega⟩ [4, 5, 6] [0, 1, 2, 3] rfl rfl rfl rfl (by decide) rfl rfl rfl hl.1 rfl (Nat.le_of_ble_eq_true rfl) d_M_close_78 ⟨by omega, by omega⟩ (fun u_8 H locs hok hP hD hS => ?_)
      have hP : va_P D cl [(hm, .inr (1, [.ref a, .ref b, .ref qa, .ref qu, .ref qb, .ref qh, .ref qm])), (b, .inr (6, [.ref qk2, .ref qp2, .int (nI n), .int (bz false), .int (bz false)])), (qk2, .inl (cB, 3000, .inl K'_4)), (qp2, .inl (cI, 18000, .inl P'_5)), (a, .inr (6, [.ref qk, .ref qp, .int (nI n), .int (bz fu), .int (bz fa)])), (qk, .inl (cB, 3000, .inl K)), (qp, .inl (cI, 18000, .inl P))] H := hP
      have hD : va_D A [(hm, .inr (1, [.ref a, .ref b, .ref qa, .ref qu, .ref qb, .ref qh, .ref qm])), (b, .inr (6, [.ref qk2, .ref qp2, .int (nI n), .int (bz false), .int (bz false)])), (qk2, .inl (cB, 3000, .inl K'_4)), (qp2, .inl (cI, 18000, .inl P'_5)), (a, .inr (6, [.ref qk, .ref qp, .int (nI n), .int (bz fu), .int (bz fa)])), (qk, .inl (cB, 3000, .inl K)), (qp, .inl (cI, 18000, .inl P))] := hD
      refine W.eq (g2 := F0 m 81 ls [.int (P (6 * r_7 + 0)), .int 3, .ref b]) rfl ?_
      refine lv_i2l (v := (P (6 * r_7 + 0)).toInt64) hx hb d_M_close_81 rfl ?_
      refine lv_aload_n hx hb d_M_close_82 rfl (lv_at hl 1 rfl) ?_
      refine va_get (D := D) (ci := 1) (v := .ref a) (C := R_M) (T := T_M) (N := 7) hx hb hts (ui_M _) hown hK hP 0 rfl rfl 0 (by decide) (hts _ (gwc gw_528)) (fun _ h9 => h9) rfl d_M_close_83 ?_
      refine lv_iload_n hx hb d_M_close_86 rfl (lv_at hl 0 rfl) ?_
      refine lv_iconst (v := 1) hx hb d_M_close_87 (by decide) ?_
      refine ct_callV (ci := 6) (q0 := 4) (As := [.int (nI r_7), .int 1]) (rest := [.long ((P (6 * r_7 + 0)).toInt64), .int 3, .ref b]) (wr := [(hm, .inr (1, [.ref a, .ref b, .ref qa, .ref qu, .ref qb, .ref qh, .ref qm])), (b, .inr (6, [.ref qk2, .ref qp2, .int (nI n), .int (bz false), .int (bz false)])), (qk2, .inl (cB, 3000, .inl K'_4)), (qp2, .inl (cI, 18000, .inl P'_5))]) (n := 2) (c_MPath_get l D cI cB cJ qQ a qk qp n K P fu fa r_7 1 (by omega) (by omega)) hx hb hml hown hts (amb_ok qQ) hK hP hD hS hA hM (gi_V gw_559 gw_560 gw_561 gw_34 gw_562) rfl (by decide +kernel) ⟨by omega, by omega⟩ [4, 5, 6] [0, 1, 2, 3] rfl rfl rfl rfl (by decide) rfl rfl rfl hl.1 rfl (Nat.le_of_ble_eq_true rfl) d_M_close_88 ⟨by omega, by omega⟩ (fun u_9 H locs hok hP hD hS => ?_)
      have hP : va_P D cl [(hm, .inr (1, [.ref a, .ref b, .ref qa, .ref qu, .ref qb, .ref qh, .ref qm])), (b, .inr (6, [.ref qk2, .ref qp2, .int (nI n), .int (bz false), .int (bz false)])), (qk2, .inl (cB, 3000, .inl K'_4)), (qp2, .inl (cI, 18000, .inl P'_5)), (a, .inr (6, [.ref qk, .ref qp, .int (nI n), .int (bz fu), .int (bz fa)])), (qk, .inl (cB, 3000, .inl K)), (qp, .inl (cI, 18000, .inl P))] H := hP
      have hD : va_D A [(hm, .inr (1, [.ref a, .ref b, .ref qa, .ref qu, .ref qb, .ref qh, .ref qm])), (b, .inr (6, [.ref qk2, .ref qp2, .int (nI n), .int (bz false), .int (bz false)])), (qk2, .inl (cB, 3000, .inl K'_4)), (qp2, .inl (cI, 18000, .inl P'_5)), (a, .inr (6, [.ref qk, .ref qp, .int (nI n), .int (bz fu), .int (bz fa)])), (qk, .inl (cB, 3000, .inl K)), (qp, .inl (cI, 18000, .inl P))] := hD
      refine W.eq (g2 := F0 m 91 ls [.int (P (6 * r_7 + 1)), .long ((P (6 * r_7 + 0)).toInt64), .int 3, .ref b]) rfl ?_
      refine lv_i2l (v := (P (6 * r_7 + 1)).toInt64) hx hb d_M_close_91 rfl ?_
      refine ct_callV (ci := 6) (q0 := 1) (As := [.int 3, .long ((P (6 * r_7 + 0)).toInt64), .long ((P (6 * r_7 + 1)).toInt64)]) (rest := []) (wr := [(hm, .inr (1, [.ref a, .ref b, .ref qa, .ref qu, .ref qb, .ref qh, .ref qm])), (a, .inr (6, [.ref qk, .ref qp, .int (nI n), .int (bz fu), .int (bz fa)])), (qk, .inl (cB, 3000, .inl K)), (qp, .inl (cI, 18000, .inl P))]) (n := 3) (c_MPath_addPoint l D cI cB cJ qQ b qk2 qp2 n K'_4 P'_5 false false 3 ((P (6 * r_7 + 0)).toInt64) ((P (6 * r_7 + 1)).toInt64) (hn) (kok3)) hx hb hml hown hts (amb_ok qQ) hK hP hD hS hA hM (gi_V gw_606 gw_580 gw_581 gw_34 gw_582) rfl (by decide +kernel) ⟨by omega, by omega⟩ [1, 2, 3] [0, 4, 5, 6] rfl rfl rfl rfl (by decide) rfl rfl rfl hl.1 rfl (Nat.le_of_ble_eq_true rfl) d_M_close_92 ⟨by omega, by omega⟩ (fun u_10 H locs hok hP hD hS => ?_)
      obtain ⟨n'_11, K'_12, P'_13, fu'_14, fa'_15⟩ := u_10
      have hbg : n'_11 ≤ 3000 ∧ (lst n'_11 K'_12 P'_13, fu'_14, fa'_15) = addD (lst n K'_4 P'_5, false, false) 3 ((P (6 * r_7 + 0)).toInt64) ((P (6 * r_7 + 1)).toInt64) 0 0 0 0 := hok
      have hP : va_P D cl [(hm, .inr (1, [.ref a, .ref b, .ref qa, .ref qu, .ref qb, .ref qh, .ref qm])), (a, .inr (6, [.ref qk, .ref qp, .int (nI n), .int (bz fu), .int (bz fa)])), (qk, .inl (cB, 3000, .inl K)), (qp, .inl (cI, 18000, .inl P)), (b, .inr (6, [.ref qk2, .ref qp2, .int (nI n'_11), .int (bz fu'_14), .int (bz fa'_15)])), (qk2, .inl (cB, 3000, .inl K'_12)), (qp2, .inl (cI, 18000, .inl P'_13))] H := hP
      have hD : va_D A [(hm, .inr (1, [.ref a, .ref b, .ref qa, .ref qu, .ref qb, .ref qh, .ref qm])), (a, .inr (6, [.ref qk, .ref qp, .int (nI n), .int (bz fu), .int (bz fa)])), (qk, .inl (cB, 3000, .inl K)), (qp, .inl (cI, 18000, .inl P)), (b, .inr (6, [.ref qk2, .ref qp2, .int (nI n'_11), .int (bz fu'_14), .int (bz fa'_15)])), (qk2, .inl (cB, 3000, .inl K'_12)), (qp2, .inl (cI, 18000, .inl P'_13))] := hD
      refine W.eq (g2 := F0 m 95 ls []) rfl ?_
      rw [hcp, hq0, hq1] at hbg
      refine lv_aload_n hx hb d_M_close_95 rfl (lv_at hl 1 rfl) ?_
      refine ct_callV (ci := 1) (q0 := 0) (As := []) (rest := []) (wr := []) (n := 0) (c_M_settle l D cI cB cJ qQ hm a b qa qu qb qh qm qk qp n K P fu fa qk2 qp2 n'_11 K'_12 P'_13 fu'_14 fa'_15 ) hx hb hml hown hts (amb_ok qQ) hK hP hD hS hA hM (gi_V gw_592 gw_594 gw_18 gw_33 gw_595) rfl (by decide +kernel) ⟨by omega, by omega⟩ [0, 1, 2, 3, 4, 5, 6] [] rfl rfl rfl rfl (by decide) rfl rfl rfl hl.1 rfl (Nat.le_of_ble_eq_true rfl) d_M_close_96 ⟨by omega, by omega⟩ (fun u_16 H locs hok hP hD hS => ?_)
      obtain ⟨r_17, a'_18, b'_19⟩ := u_16
      have hok_20 : ((fa'_15 = true) ∧ (-4) = r_17 ∧ a = a'_18 ∧ b = b'_19) ∨ ((fa'_15 = false) ∧ (fu'_14 = true) ∧ (-3) = r_17 ∧ a = a'_18 ∧ b = b'_19) ∨ ((fa'_15 = false) ∧ (fu'_14 = false) ∧ nI n'_11 = r_17 ∧ b = a'_18 ∧ a = b'_19) := hok
      rcases hok_20 with ⟨h_21, rfl, rfl, rfl⟩ | ⟨h_22, h_23, rfl, rfl, rfl⟩ | ⟨h_24, h_25, rfl, rfl, rfl⟩
      · skip
        have hP : va_P D cl [(hm, .inr (1, [.ref a, .ref b, .ref qa, .ref qu, .ref qb, .ref qh, .ref qm])), (a, .inr (6, [.ref qk, .ref qp, .int (nI n), .int (bz fu), .int (bz fa)])), (qk, .inl (cB, 3000, .inl K)), (qp, .inl (cI, 18000, .inl P)), (b, .inr (6, [.ref qk2, .ref qp2, .int (nI n'_11), .int (bz fu'_14), .int (bz fa'_15)])), (qk2, .inl (cB, 3000, .inl K'_12)), (qp2, .inl (cI, 18000, .inl P'_13))] H := hP
        have hD : va_D A [(hm, .inr (1, [.ref a, .ref b, .ref qa, .ref qu, .ref qb, .ref qh, .ref qm])), (a, .inr (6, [.ref qk, .ref qp, .int (nI n), .int (bz fu), .int (bz fa)])), (qk, .inl (cB, 3000, .inl K)), (qp, .inl (cI, 18000, .inl P)), (b, .inr (6, [.ref qk2, .ref qp2, .int (nI n'_11), .int (bz fu'_14), .int (bz fa'_15)])), (qk2, .inl (cB, 3000, .inl K'_12)), (qp2, .inl (cI, 18000, .inl P'_13))] := hD
        refine W.eq (g2 := F0 m 99 ls [.int (-4)]) rfl ?_
        exact ct_reti hQ hx hb hr hlocks hP hD hS ((-4), a, b, qk, qp, n, K, P, fu, fa, qk2, qp2, n'_11, K'_12, P'_13, fu'_14, fa'_15) [(hm, .inr (1, [.ref a, .ref b, .ref qa, .ref qu, .ref qb, .ref qh, .ref qm])), (a, .inr (6, [.ref qk, .ref qp, .int (nI n), .int (bz fu), .int (bz fa)])), (qk, .inl (cB, 3000, .inl K)), (qp, .inl (cI, 18000, .inl P)), (b, .inr (6, [.ref qk2, .ref qp2, .int (nI n'_11), .int (bz fu'_14), .int (bz fa'_15)])), (qk2, .inl (cB, 3000, .inl K'_12)), (qp2, .inl (cI, 18000, .inl P'_13))] [0, 1, 2, 3, 4, 5, 6] (rfl) (⟨hn, by unfold rClose; rw [if_neg hz, setl_far hbg.2 h_21]⟩) (rfl) rfl rfl (by omega) (by omega) d_M_close_99
      · skip
        have hP : va_P D cl [(hm, .inr (1, [.ref a, .ref b, .ref qa, .ref qu, .ref qb, .ref qh, .ref qm])), (a, .inr (6, [.ref qk, .ref qp, .int (nI n), .int (bz fu), .int (bz fa)])), (qk, .inl (cB, 3000, .inl K)), (qp, .inl (cI, 18000, .inl P)), (b, .inr (6, [.ref qk2, .ref qp2, .int (nI n'_11), .int (bz fu'_14), .int (bz fa'_15)])), (qk2, .inl (cB, 3000, .inl K'_12)), (qp2, .inl (cI, 18000, .inl P'_13))] H := hP
        have hD : va_D A [(hm, .inr (1, [.ref a, .ref b, .ref qa, .ref qu, .ref qb, .ref qh, .ref qm])), (a, .inr (6, [.ref qk, .ref qp, .int (nI n), .int (bz fu), .int (bz fa)])), (qk, .inl (cB, 3000, .inl K)), (qp, .inl (cI, 18000, .inl P)), (b, .inr (6, [.ref qk2, .ref qp2, .int (nI n'_11), .int (bz fu'_14), .int (bz fa'_15)])), (qk2, .inl (cB, 3000, .inl K'_12)), (qp2, .inl (cI, 18000, .inl P'_13))] := hD
        refine W.eq (g2 := F0 m 99 ls [.int (-3)]) rfl ?_
        exact ct_reti hQ hx hb hr hlocks hP hD hS ((-3), a, b, qk, qp, n, K, P, fu, fa, qk2, qp2, n'_11, K'_12, P'_13, fu'_14, fa'_15) [(hm, .inr (1, [.ref a, .ref b, .ref qa, .ref qu, .ref qb, .ref qh, .ref qm])), (a, .inr (6, [.ref qk, .ref qp, .int (nI n), .int (bz fu), .int (bz fa)])), (qk, .inl (cB, 3000, .inl K)), (qp, .inl (cI, 18000, .inl P)), (b, .inr (6, [.ref qk2, .ref qp2, .int (nI n'_11), .int (bz fu'_14), .int (bz fa'_15)])), (qk2, .inl (cB, 3000, .inl K'_12)), (qp2, .inl (cI, 18000, .inl P'_13))] [0, 1, 2, 3, 4, 5, 6] (rfl) (⟨hn, by unfold rClose; rw [if_neg hz, setl_full hbg.2 h_22 h_23]⟩) (rfl) rfl rfl (by omega) (by omega) d_M_close_99
      · skip
        have hP : va_P D cl [(hm, .inr (1, [.ref b, .ref a, .ref qa, .ref qu, .ref qb, .ref qh, .ref qm])), (a, .inr (6, [.ref qk, .ref qp, .int (nI n), .int (bz fu), .int (bz fa)])), (qk, .inl (cB, 3000, .inl K)), (qp, .inl (cI, 18000, .inl P)), (b, .inr (6, [.ref qk2, .ref qp2, .int (nI n'_11), .int (bz fu'_14), .int (bz fa'_15)])), (qk2, .inl (cB, 3000, .inl K'_12)), (qp2, .inl (cI, 18000, .inl P'_13))] H := hP
        have hD : va_D A [(hm, .inr (1, [.ref b, .ref a, .ref qa, .ref qu, .ref qb, .ref qh, .ref qm])), (a, .inr (6, [.ref qk, .ref qp, .int (nI n), .int (bz fu), .int (bz fa)])), (qk, .inl (cB, 3000, .inl K)), (qp, .inl (cI, 18000, .inl P)), (b, .inr (6, [.ref qk2, .ref qp2, .int (nI n'_11), .int (bz fu'_14), .int (bz fa'_15)])), (qk2, .inl (cB, 3000, .inl K'_12)), (qp2, .inl (cI, 18000, .inl P'_13))] := hD
        refine W.eq (g2 := F0 m 99 ls [.int (nI n'_11)]) rfl ?_
        exact ct_reti hQ hx hb hr hlocks hP hD hS ((nI n'_11), b, a, qk2, qp2, n'_11, K'_12, P'_13, fu'_14, fa'_15, qk, qp, n, K, P, fu, fa) [(hm, .inr (1, [.ref b, .ref a, .ref qa, .ref qu, .ref qb, .ref qh, .ref qm])), (b, .inr (6, [.ref qk2, .ref qp2, .int (nI n'_11), .int (bz fu'_14), .int (bz fa'_15)])), (qk2, .inl (cB, 3000, .inl K'_12)), (qp2, .inl (cI, 18000, .inl P'_13)), (a, .inr (6, [.ref qk, .ref qp, .int (nI n), .int (bz fu), .int (bz fa)])), (qk, .inl (cB, 3000, .inl K)), (qp, .inl (cI, 18000, .inl P))] [0, 4, 5, 6, 1, 2, 3] (rfl) (⟨hbg.1, by unfold rClose; rw [if_neg hz, setl_ok hbg.2 h_24 h_25, lst_len]⟩) (rfl) rfl rfl (by omega) (by omega) d_M_close_99
    · skip
      refine lv_aload_n hx hb d_M_close_31 rfl (lv_at hl 0 rfl) ?_
      refine va_get (D := D) (ci := 1) (v := .ref a) (C := R_M) (T := T_M) (N := 7) hx hb hts (ui_M _) hown hK hP 0 rfl rfl 0 (by decide) (hts _ (gwc gw_528)) (fun _ h9 => h9) rfl d_M_close_32 ?_
      refine va_getN (D := D) (ci := 6) (v := .int (nI n)) (C := R_MPath) (T := T_MPath) (N := 5) hx hb hts (ui_MPath _) hown hK hP 1 rfl rfl 2 (by decide) ((amb_nw_11 hM).use rfl) (fun _ h9 => h9) rfl d_M_close_35 ?_
      exact ct_reti hQ hx hb hr hlocks hP hD hS (nI n, a, b, qk, qp, n, K, P, fu, fa, qk2, qp2, n2, K2, P2, fu2, fa2) [(hm, .inr (1, [.ref a, .ref b, .ref qa, .ref qu, .ref qb, .ref qh, .ref qm])), (a, .inr (6, [.ref qk, .ref qp, .int (nI n), .int (bz fu), .int (bz fa)])), (qk, .inl (cB, 3000, .inl K)), (qp, .inl (cI, 18000, .inl P)), (b, .inr (6, [.ref qk2, .ref qp2, .int (nI n2), .int (bz fu2), .int (bz fa2)])), (qk2, .inl (cB, 3000, .inl K2)), (qp2, .inl (cI, 18000, .inl P2))] [0, 1, 2, 3, 4, 5, 6] (rfl) (⟨hn, by unfold rClose; rw [if_pos (Or.inr (by rw [lk_n c_1]; exact c_2)), lst_len]⟩) (rfl) rfl rfl (by omega) (by omega) d_M_close_38
set_option maxHeartbeats 4000000 in
set_option maxRecDepth 100000 in
/-- point -/
theorem c_M_point (l : Launch) (D : va_G) (cI cB cJ : ClassId) (qQ : Nat) (hm : Nat) (a : Nat) (b : Nat) (qa : Nat) (qu : Nat) (qb : Nat) (qh : Nat) (qm : Nat) (qk : Nat) (qp : Nat) (n : Nat) (K : Nat → Int32) (P : Nat → Int32) (fu : Bool) (fa : Bool) (wh : Int32) (hn : n ≤ 3000) : ct l D cl [(cI, .int), (cB, .byte), (cJ, .long)] (amb qQ) y_M_point w_M_point 1 22 (0) (0) [.ref hm, .int wh] [(hm, .inr (1, [.ref a, .ref b, .ref qa, .ref qu, .ref qb, .ref qh, .ref qm])), (a, .inr (6, [.ref qk, .ref qp, .int (nI n), .int (bz fu), .int (bz fa)])), (qk, .inl (cB, 3000, .inl K)), (qp, .inl (cI, 18000, .inl P))] (fun _ : Unit => True) (fun _ : Unit => some (.int (rPoint (lst n K P) wh))) (fun _ : Unit => [(hm, .inr (1, [.ref a, .ref b, .ref qa, .ref qu, .ref qb, .ref qh, .ref qm])), (a, .inr (6, [.ref qk, .ref qp, .int (nI n), .int (bz fu), .int (bz fa)])), (qk, .inl (cB, 3000, .inl K)), (qp, .inl (cI, 18000, .inl P))]) := by
  refine ct_ofW (cc := b_M_point) (maxL := 2) (ret := (some .int)) (by decide) rfl (Nat.le_of_ble_eq_true rfl) ?_
  intro p e R s m args below meth c A Q ls hx hb hr hml hts hown hlocks hname hRf hRc hRs hRl hQ hK hP hD hS hA hM hl
  have hl : lv_has ls 2 [(0, .ref hm), (1, .int wh)] := hl
  refine lv_aload_n hx hb d_M_point_0 rfl (lv_at hl 0 rfl) ?_
  refine va_get (D := D) (ci := 1) (v := .ref a) (C := R_M) (T := T_M) (N := 7) hx hb hts (ui_M _) hown hK hP 0 rfl rfl 0 (by decide) (hts _ (gwc gw_528)) (fun _ h9 => h9) rfl d_M_point_1 ?_
  refine va_getN (D := D) (ci := 6) (v := .int (nI n)) (C := R_MPath) (T := T_MPath) (N := 5) hx hb hts (ui_MPath _) hown hK hP 1 rfl rfl 2 (by decide) ((amb_nw_11 hM).use rfl) (fun _ h9 => h9) rfl d_M_point_4 ?_
  refine bz_le (a1 := n) (tgt := 39) hx hb (by omega) d_M_point_7 (by decide) (fun c_1 => ?_) (fun c_1 => ?_)
  · skip
    refine lv_iconst (v := 0) hx hb d_M_point_39 (by decide) ?_
    exact ct_reti hQ hx hb hr hlocks hP hD hS () [(hm, .inr (1, [.ref a, .ref b, .ref qa, .ref qu, .ref qb, .ref qh, .ref qm])), (a, .inr (6, [.ref qk, .ref qp, .int (nI n), .int (bz fu), .int (bz fa)])), (qk, .inl (cB, 3000, .inl K)), (qp, .inl (cI, 18000, .inl P))] [0, 1, 2, 3] (by rw [rPoint, if_pos (by rw [lst_len]; exact c_1)]) (trivial) (rfl) rfl rfl (by omega) (by omega) d_M_point_40
  · skip
    refine lv_iload_n hx hb d_M_point_10 rfl (lv_at hl 1 rfl) ?_
    refine lv_if_eq (tgt := 19) hx hb d_M_point_11 (by decide) (fun c_2 => ?_) (fun c_2 => ?_)
    · skip
      refine lv_aload_n hx hb d_M_point_19 rfl (lv_at hl 0 rfl) ?_
      refine va_get (D := D) (ci := 1) (v := .ref a) (C := R_M) (T := T_M) (N := 7) hx hb hts (ui_M _) hown hK hP 0 rfl rfl 0 (by decide) (hts _ (gwc gw_528)) (fun _ h9 => h9) rfl d_M_point_20 ?_
      refine lv_aload_n hx hb d_M_point_23 rfl (lv_at hl 0 rfl) ?_
      refine va_get (D := D) (ci := 1) (v := .ref a) (C := R_M) (T := T_M) (N := 7) hx hb hts (ui_M _) hown hK hP 0 rfl rfl 0 (by decide) (hts _ (gwc gw_528)) (fun _ h9 => h9) rfl d_M_point_24 ?_
      refine va_getN (D := D) (ci := 6) (v := .int (nI n)) (C := R_MPath) (T := T_MPath) (N := 5) hx hb hts (ui_MPath _) hown hK hP 1 rfl rfl 2 (by decide) ((amb_nw_11 hM).use rfl) (fun _ h9 => h9) rfl d_M_point_27 ?_
      refine lv_iconst (v := 1) hx hb d_M_point_30 (by decide) ?_
      refine lv_isub hx hb d_M_point_31 ?_
      refine tp_i (nI (n - 1)) (pk_sub (a := n) (b := 1) (by omega)) ?_
      refine lv_iload_n hx hb d_M_point_32 rfl (lv_at hl 1 rfl) ?_
      refine tp_i (0) (c_2) ?_
      refine ct_callV (ci := 6) (q0 := 1) (As := [.int (nI (n - 1)), .int 0]) (rest := []) (wr := [(hm, .inr (1, [.ref a, .ref b, .ref qa, .ref qu, .ref qb, .ref qh, .ref qm]))]) (n := 2) (c_MPath_get l D cI cB cJ qQ a qk qp n K P fu fa (n - 1) 0 (by omega) (by omega)) hx hb hml hown hts (amb_ok qQ) hK hP hD hS hA hM (gi_V gw_559 gw_560 gw_561 gw_34 gw_562) rfl (by decide +kernel) ⟨by omega, by omega⟩ [1, 2, 3] [0] rfl rfl rfl rfl (by decide) rfl rfl rfl hl.1 rfl (Nat.le_of_ble_eq_true rfl) d_M_point_33 ⟨by omega, by omega⟩ (fun u_3 H locs hok hP hD hS => ?_)
      have hP : va_P D cl [(hm, .inr (1, [.ref a, .ref b, .ref qa, .ref qu, .ref qb, .ref qh, .ref qm])), (a, .inr (6, [.ref qk, .ref qp, .int (nI n), .int (bz fu), .int (bz fa)])), (qk, .inl (cB, 3000, .inl K)), (qp, .inl (cI, 18000, .inl P))] H := hP
      have hD : va_D A [(hm, .inr (1, [.ref a, .ref b, .ref qa, .ref qu, .ref qb, .ref qh, .ref qm])), (a, .inr (6, [.ref qk, .ref qp, .int (nI n), .int (bz fu), .int (bz fa)])), (qk, .inl (cB, 3000, .inl K)), (qp, .inl (cI, 18000, .inl P))] := hD
      refine W.eq (g2 := F0 m 36 ls [.int (P (6 * (n - 1) + 0))]) rfl ?_
      refine lv_goto (tgt := 40) hx hb d_M_point_36 (by decide) ?_
      exact ct_reti hQ hx hb hr hlocks hP hD hS () [(hm, .inr (1, [.ref a, .ref b, .ref qa, .ref qu, .ref qb, .ref qh, .ref qm])), (a, .inr (6, [.ref qk, .ref qp, .int (nI n), .int (bz fu), .int (bz fa)])), (qk, .inl (cB, 3000, .inl K)), (qp, .inl (cI, 18000, .inl P))] [0, 1, 2, 3] (by rw [rPoint, if_neg (by rw [lst_len]; omega), if_pos c_2, lx_n c_1]; rfl) (trivial) (rfl) rfl rfl (by omega) (by omega) d_M_point_40
    · skip
      refine lv_iload_n hx hb d_M_point_14 rfl (lv_at hl 1 rfl) ?_
      refine lv_iconst (v := 1) hx hb d_M_point_15 (by decide) ?_
      refine lv_icmp_ne (tgt := 39) hx hb d_M_point_16 (by decide) (fun c_4 => ?_) (fun c_4 => ?_)
      · skip
        refine lv_iconst (v := 0) hx hb d_M_point_39 (by decide) ?_
        exact ct_reti hQ hx hb hr hlocks hP hD hS () [(hm, .inr (1, [.ref a, .ref b, .ref qa, .ref qu, .ref qb, .ref qh, .ref qm])), (a, .inr (6, [.ref qk, .ref qp, .int (nI n), .int (bz fu), .int (bz fa)])), (qk, .inl (cB, 3000, .inl K)), (qp, .inl (cI, 18000, .inl P))] [0, 1, 2, 3] (by rw [rPoint, if_neg (by rw [lst_len]; omega), if_neg c_2, if_neg c_4]) (trivial) (rfl) rfl rfl (by omega) (by omega) d_M_point_40
      · skip
        refine lv_aload_n hx hb d_M_point_19 rfl (lv_at hl 0 rfl) ?_
        refine va_get (D := D) (ci := 1) (v := .ref a) (C := R_M) (T := T_M) (N := 7) hx hb hts (ui_M _) hown hK hP 0 rfl rfl 0 (by decide) (hts _ (gwc gw_528)) (fun _ h9 => h9) rfl d_M_point_20 ?_
        refine lv_aload_n hx hb d_M_point_23 rfl (lv_at hl 0 rfl) ?_
        refine va_get (D := D) (ci := 1) (v := .ref a) (C := R_M) (T := T_M) (N := 7) hx hb hts (ui_M _) hown hK hP 0 rfl rfl 0 (by decide) (hts _ (gwc gw_528)) (fun _ h9 => h9) rfl d_M_point_24 ?_
        refine va_getN (D := D) (ci := 6) (v := .int (nI n)) (C := R_MPath) (T := T_MPath) (N := 5) hx hb hts (ui_MPath _) hown hK hP 1 rfl rfl 2 (by decide) ((amb_nw_11 hM).use rfl) (fun _ h9 => h9) rfl d_M_point_27 ?_
        refine lv_iconst (v := 1) hx hb d_M_point_30 (by decide) ?_
        refine lv_isub hx hb d_M_point_31 ?_
        refine tp_i (nI (n - 1)) (pk_sub (a := n) (b := 1) (by omega)) ?_
        refine lv_iload_n hx hb d_M_point_32 rfl (lv_at hl 1 rfl) ?_
        refine tp_i (1) (c_4) ?_
        refine ct_callV (ci := 6) (q0 := 1) (As := [.int (nI (n - 1)), .int 1]) (rest := []) (wr := [(hm, .inr (1, [.ref a, .ref b, .ref qa, .ref qu, .ref qb, .ref qh, .ref qm]))]) (n := 2) (c_MPath_get l D cI cB cJ qQ a qk qp n K P fu fa (n - 1) 1 (by omega) (by omega)) hx hb hml hown hts (amb_ok qQ) hK hP hD hS hA hM (gi_V gw_559 gw_560 gw_561 gw_34 gw_562) rfl (by decide +kernel) ⟨by omega, by omega⟩ [1, 2, 3] [0] rfl rfl rfl rfl (by decide) rfl rfl rfl hl.1 rfl (Nat.le_of_ble_eq_true rfl) d_M_point_33 ⟨by omega, by omega⟩ (fun u_5 H locs hok hP hD hS => ?_)
        have hP : va_P D cl [(hm, .inr (1, [.ref a, .ref b, .ref qa, .ref qu, .ref qb, .ref qh, .ref qm])), (a, .inr (6, [.ref qk, .ref qp, .int (nI n), .int (bz fu), .int (bz fa)])), (qk, .inl (cB, 3000, .inl K)), (qp, .inl (cI, 18000, .inl P))] H := hP
        have hD : va_D A [(hm, .inr (1, [.ref a, .ref b, .ref qa, .ref qu, .ref qb, .ref qh, .ref qm])), (a, .inr (6, [.ref qk, .ref qp, .int (nI n), .int (bz fu), .int (bz fa)])), (qk, .inl (cB, 3000, .inl K)), (qp, .inl (cI, 18000, .inl P))] := hD
        refine W.eq (g2 := F0 m 36 ls [.int (P (6 * (n - 1) + 1))]) rfl ?_
        refine lv_goto (tgt := 40) hx hb d_M_point_36 (by decide) ?_
        exact ct_reti hQ hx hb hr hlocks hP hD hS () [(hm, .inr (1, [.ref a, .ref b, .ref qa, .ref qu, .ref qb, .ref qh, .ref qm])), (a, .inr (6, [.ref qk, .ref qp, .int (nI n), .int (bz fu), .int (bz fa)])), (qk, .inl (cB, 3000, .inl K)), (qp, .inl (cI, 18000, .inl P))] [0, 1, 2, 3] (by rw [rPoint, if_neg (by rw [lst_len]; omega), if_neg c_2, if_pos c_4, ly_n c_1]) (trivial) (rfl) rfl rfl (by omega) (by omega) d_M_point_40
set_option maxHeartbeats 4000000 in
set_option maxRecDepth 100000 in
/-- kind -/
theorem c_M_kind (l : Launch) (D : va_G) (cI cB cJ : ClassId) (qQ : Nat) (hm : Nat) (a : Nat) (b : Nat) (qa : Nat) (qu : Nat) (qb : Nat) (qh : Nat) (qm : Nat) (qk : Nat) (qp : Nat) (n : Nat) (K : Nat → Int32) (P : Nat → Int32) (fu : Bool) (fa : Bool) (i : Int32) (hn : n ≤ 3000) : ct l D cl [(cI, .int), (cB, .byte), (cJ, .long)] (amb qQ) y_M_kind w_M_kind 0 0 (0) (0) [.ref hm, .int i] [(hm, .inr (1, [.ref a, .ref b, .ref qa, .ref qu, .ref qb, .ref qh, .ref qm])), (a, .inr (6, [.ref qk, .ref qp, .int (nI n), .int (bz fu), .int (bz fa)])), (qk, .inl (cB, 3000, .inl K)), (qp, .inl (cI, 18000, .inl P))] (fun _ : Unit => True) (fun _ : Unit => some (.int (rKind (lst n K P) i))) (fun _ : Unit => [(hm, .inr (1, [.ref a, .ref b, .ref qa, .ref qu, .ref qb, .ref qh, .ref qm])), (a, .inr (6, [.ref qk, .ref qp, .int (nI n), .int (bz fu), .int (bz fa)])), (qk, .inl (cB, 3000, .inl K)), (qp, .inl (cI, 18000, .inl P))]) := by
  refine ct_ofW (cc := b_M_kind) (maxL := 2) (ret := (some .int)) (by decide) rfl (Nat.le_of_ble_eq_true rfl) ?_
  intro p e R s m args below meth c A Q ls hx hb hr hml hts hown hlocks hname hRf hRc hRs hRl hQ hK hP hD hS hA hM hl
  have hl : lv_has ls 2 [(0, .ref hm), (1, .int i)] := hl
  refine lv_iload_n hx hb d_M_kind_0 rfl (lv_at hl 1 rfl) ?_
  refine lv_if_lt (tgt := 27) hx hb d_M_kind_1 (by decide) (fun c_1 => ?_) (fun c_1 => ?_)
  · skip
    refine lv_iconst (v := (-1)) hx hb d_M_kind_27 (by decide) ?_
    exact ct_reti hQ hx hb hr hlocks hP hD hS () [(hm, .inr (1, [.ref a, .ref b, .ref qa, .ref qu, .ref qb, .ref qh, .ref qm])), (a, .inr (6, [.ref qk, .ref qp, .int (nI n), .int (bz fu), .int (bz fa)])), (qk, .inl (cB, 3000, .inl K)), (qp, .inl (cI, 18000, .inl P))] [0, 1, 2, 3] (by rw [rKind, if_pos (Or.inl c_1)]) (trivial) (rfl) rfl rfl (by omega) (by omega) d_M_kind_28
  · skip
    refine lv_iload_n hx hb d_M_kind_4 rfl (lv_at hl 1 rfl) ?_
    refine lv_aload_n hx hb d_M_kind_5 rfl (lv_at hl 0 rfl) ?_
    refine va_get (D := D) (ci := 1) (v := .ref a) (C := R_M) (T := T_M) (N := 7) hx hb hts (ui_M _) hown hK hP 0 rfl rfl 0 (by decide) (hts _ (gwc gw_528)) (fun _ h9 => h9) rfl d_M_kind_6 ?_
    refine va_getN (D := D) (ci := 6) (v := .int (nI n)) (C := R_MPath) (T := T_MPath) (N := 5) hx hb hts (ui_MPath _) hown hK hP 1 rfl rfl 2 (by decide) ((amb_nw_11 hM).use rfl) (fun _ h9 => h9) rfl d_M_kind_9 ?_
    refine lv_icmp_ge (tgt := 27) hx hb d_M_kind_12 (by decide) (fun c_2 => ?_) (fun c_2 => ?_)
    · skip
      refine lv_iconst (v := (-1)) hx hb d_M_kind_27 (by decide) ?_
      exact ct_reti hQ hx hb hr hlocks hP hD hS () [(hm, .inr (1, [.ref a, .ref b, .ref qa, .ref qu, .ref qb, .ref qh, .ref qm])), (a, .inr (6, [.ref qk, .ref qp, .int (nI n), .int (bz fu), .int (bz fa)])), (qk, .inl (cB, 3000, .inl K)), (qp, .inl (cI, 18000, .inl P))] [0, 1, 2, 3] (by rw [rKind, if_pos (Or.inr (by rw [lst_len]; exact c_2))]) (trivial) (rfl) rfl rfl (by omega) (by omega) d_M_kind_28
    · skip
      obtain ⟨j, hj, ej⟩ := ix_lt c_1 c_2 (by omega)
      refine lv_aload_n hx hb d_M_kind_15 rfl (lv_at hl 0 rfl) ?_
      refine va_get (D := D) (ci := 1) (v := .ref a) (C := R_M) (T := T_M) (N := 7) hx hb hts (ui_M _) hown hK hP 0 rfl rfl 0 (by decide) (hts _ (gwc gw_528)) (fun _ h9 => h9) rfl d_M_kind_16 ?_
      refine va_getN (D := D) (ci := 6) (v := .ref qk) (C := R_MPath) (T := T_MPath) (N := 5) hx hb hts (ui_MPath _) hown hK hP 1 rfl rfl 0 (by decide) ((amb_nw_10 hM).use rfl) (fun _ h9 => h9) rfl d_M_kind_19 ?_
      refine lv_iload_n hx hb d_M_kind_22 rfl (lv_at hl 1 rfl) ?_
      refine tp_i (nI j) (ej) ?_
      refine ld_b hx hb hK hP 2 1 rfl rfl j (by omega) (by omega) d_M_kind_23 ?_
      refine lv_goto (tgt := 28) hx hb d_M_kind_24 (by decide) ?_
      exact ct_reti hQ hx hb hr hlocks hP hD hS () [(hm, .inr (1, [.ref a, .ref b, .ref qa, .ref qu, .ref qb, .ref qh, .ref qm])), (a, .inr (6, [.ref qk, .ref qp, .int (nI n), .int (bz fu), .int (bz fa)])), (qk, .inl (cB, 3000, .inl K)), (qp, .inl (cI, 18000, .inl P))] [0, 1, 2, 3] (by rw [ej, rKind_j hj hn]) (trivial) (rfl) rfl rfl (by omega) (by omega) d_M_kind_28
set_option maxHeartbeats 4000000 in
set_option maxRecDepth 100000 in
/-- place -/
theorem c_M_place (l : Launch) (D : va_G) (cI cB cJ : ClassId) (qQ : Nat) (hm : Nat) (a : Nat) (b : Nat) (qa : Nat) (qu : Nat) (qb : Nat) (qh : Nat) (qm : Nat) (qk : Nat) (qp : Nat) (n : Nat) (K : Nat → Int32) (P : Nat → Int32) (fu : Bool) (fa : Bool) (i : Int32) (wh : Int32) (hn : n ≤ 3000) : ct l D cl [(cI, .int), (cB, .byte), (cJ, .long)] (amb qQ) y_M_place w_M_place 1 22 (0) (0) [.ref hm, .int i, .int wh] [(hm, .inr (1, [.ref a, .ref b, .ref qa, .ref qu, .ref qb, .ref qh, .ref qm])), (a, .inr (6, [.ref qk, .ref qp, .int (nI n), .int (bz fu), .int (bz fa)])), (qk, .inl (cB, 3000, .inl K)), (qp, .inl (cI, 18000, .inl P))] (fun _ : Unit => True) (fun _ : Unit => some (.int (rPlace (lst n K P) i wh))) (fun _ : Unit => [(hm, .inr (1, [.ref a, .ref b, .ref qa, .ref qu, .ref qb, .ref qh, .ref qm])), (a, .inr (6, [.ref qk, .ref qp, .int (nI n), .int (bz fu), .int (bz fa)])), (qk, .inl (cB, 3000, .inl K)), (qp, .inl (cI, 18000, .inl P))]) := by
  refine ct_ofW (cc := b_M_place) (maxL := 3) (ret := (some .int)) (by decide) rfl (Nat.le_of_ble_eq_true rfl) ?_
  intro p e R s m args below meth c A Q ls hx hb hr hml hts hown hlocks hname hRf hRc hRs hRl hQ hK hP hD hS hA hM hl
  have hl : lv_has ls 3 [(0, .ref hm), (1, .int i), (2, .int wh)] := hl
  refine lv_iload_n hx hb d_M_place_0 rfl (lv_at hl 1 rfl) ?_
  refine lv_if_lt (tgt := 42) hx hb d_M_place_1 (by decide) (fun c_1 => ?_) (fun c_1 => ?_)
  · skip
    refine lv_iconst (v := 0) hx hb d_M_place_42 (by decide) ?_
    exact ct_reti hQ hx hb hr hlocks hP hD hS () [(hm, .inr (1, [.ref a, .ref b, .ref qa, .ref qu, .ref qb, .ref qh, .ref qm])), (a, .inr (6, [.ref qk, .ref qp, .int (nI n), .int (bz fu), .int (bz fa)])), (qk, .inl (cB, 3000, .inl K)), (qp, .inl (cI, 18000, .inl P))] [0, 1, 2, 3] (by rw [rPlace, if_pos (Or.inl c_1)]) (trivial) (rfl) rfl rfl (by omega) (by omega) d_M_place_43
  · skip
    refine lv_iload_n hx hb d_M_place_4 rfl (lv_at hl 1 rfl) ?_
    refine lv_aload_n hx hb d_M_place_5 rfl (lv_at hl 0 rfl) ?_
    refine va_get (D := D) (ci := 1) (v := .ref a) (C := R_M) (T := T_M) (N := 7) hx hb hts (ui_M _) hown hK hP 0 rfl rfl 0 (by decide) (hts _ (gwc gw_528)) (fun _ h9 => h9) rfl d_M_place_6 ?_
    refine va_getN (D := D) (ci := 6) (v := .int (nI n)) (C := R_MPath) (T := T_MPath) (N := 5) hx hb hts (ui_MPath _) hown hK hP 1 rfl rfl 2 (by decide) ((amb_nw_11 hM).use rfl) (fun _ h9 => h9) rfl d_M_place_9 ?_
    refine lv_icmp_ge (tgt := 42) hx hb d_M_place_12 (by decide) (fun c_2 => ?_) (fun c_2 => ?_)
    · skip
      refine lv_iconst (v := 0) hx hb d_M_place_42 (by decide) ?_
      exact ct_reti hQ hx hb hr hlocks hP hD hS () [(hm, .inr (1, [.ref a, .ref b, .ref qa, .ref qu, .ref qb, .ref qh, .ref qm])), (a, .inr (6, [.ref qk, .ref qp, .int (nI n), .int (bz fu), .int (bz fa)])), (qk, .inl (cB, 3000, .inl K)), (qp, .inl (cI, 18000, .inl P))] [0, 1, 2, 3] (by rw [rPlace, if_pos (Or.inr (Or.inl (by rw [lst_len]; exact c_2)))]) (trivial) (rfl) rfl rfl (by omega) (by omega) d_M_place_43
    · skip
      obtain ⟨j, hj, ej⟩ := ix_lt c_1 c_2 (by omega)
      refine lv_iload_n hx hb d_M_place_15 rfl (lv_at hl 2 rfl) ?_
      refine lv_if_lt (tgt := 42) hx hb d_M_place_16 (by decide) (fun c_3 => ?_) (fun c_3 => ?_)
      · skip
        refine lv_iconst (v := 0) hx hb d_M_place_42 (by decide) ?_
        exact ct_reti hQ hx hb hr hlocks hP hD hS () [(hm, .inr (1, [.ref a, .ref b, .ref qa, .ref qu, .ref qb, .ref qh, .ref qm])), (a, .inr (6, [.ref qk, .ref qp, .int (nI n), .int (bz fu), .int (bz fa)])), (qk, .inl (cB, 3000, .inl K)), (qp, .inl (cI, 18000, .inl P))] [0, 1, 2, 3] (by rw [rPlace, if_pos (Or.inr (Or.inr (Or.inl c_3)))]) (trivial) (rfl) rfl rfl (by omega) (by omega) d_M_place_43
      · skip
        refine lv_iload_n hx hb d_M_place_19 rfl (lv_at hl 2 rfl) ?_
        refine lv_iconst (v := 5) hx hb d_M_place_20 (by decide) ?_
        refine lv_icmp_gt (tgt := 42) hx hb d_M_place_21 (by decide) (fun c_4 => ?_) (fun c_4 => ?_)
        · skip
          refine lv_iconst (v := 0) hx hb d_M_place_42 (by decide) ?_
          exact ct_reti hQ hx hb hr hlocks hP hD hS () [(hm, .inr (1, [.ref a, .ref b, .ref qa, .ref qu, .ref qb, .ref qh, .ref qm])), (a, .inr (6, [.ref qk, .ref qp, .int (nI n), .int (bz fu), .int (bz fa)])), (qk, .inl (cB, 3000, .inl K)), (qp, .inl (cI, 18000, .inl P))] [0, 1, 2, 3] (by rw [rPlace, if_pos (Or.inr (Or.inr (Or.inr c_4)))]) (trivial) (rfl) rfl rfl (by omega) (by omega) d_M_place_43
        · skip
          obtain ⟨k, hk5, ek⟩ := ix_le (n := 5) c_3 c_4 (by omega)
          refine lv_iload_n hx hb d_M_place_24 rfl (lv_at hl 2 rfl) ?_
          refine lv_iconst (v := 1) hx hb d_M_place_25 (by decide) ?_
          refine lv_icmp_le (tgt := 44) hx hb d_M_place_26 (by decide) (fun c_5 => ?_) (fun c_5 => ?_)
          · skip
            refine lv_aload_n hx hb d_M_place_44 rfl (lv_at hl 0 rfl) ?_
            refine va_get (D := D) (ci := 1) (v := .ref a) (C := R_M) (T := T_M) (N := 7) hx hb hts (ui_M _) hown hK hP 0 rfl rfl 0 (by decide) (hts _ (gwc gw_528)) (fun _ h9 => h9) rfl d_M_place_45 ?_
            refine lv_iload_n hx hb d_M_place_48 rfl (lv_at hl 1 rfl) ?_
            refine tp_i (nI j) (ej) ?_
            refine lv_iload_n hx hb d_M_place_49 rfl (lv_at hl 2 rfl) ?_
            refine tp_i (nI k) (ek) ?_
            refine ct_callV (ci := 6) (q0 := 1) (As := [.int (nI j), .int (nI k)]) (rest := []) (wr := [(hm, .inr (1, [.ref a, .ref b, .ref qa, .ref qu, .ref qb, .ref qh, .ref qm]))]) (n := 2) (c_MPath_get l D cI cB cJ qQ a qk qp n K P fu fa j k (by omega) (by omega)) hx hb hml hown hts (amb_ok qQ) hK hP hD hS hA hM (gi_V gw_559 gw_560 gw_561 gw_34 gw_562) rfl (by decide +kernel) ⟨by omega, by omega⟩ [1, 2, 3] [0] rfl rfl rfl rfl (by decide) rfl rfl rfl hl.1 rfl (Nat.le_of_ble_eq_true rfl) d_M_place_50 ⟨by omega, by omega⟩ (fun u_6 H locs hok hP hD hS => ?_)
            have hP : va_P D cl [(hm, .inr (1, [.ref a, .ref b, .ref qa, .ref qu, .ref qb, .ref qh, .ref qm])), (a, .inr (6, [.ref qk, .ref qp, .int (nI n), .int (bz fu), .int (bz fa)])), (qk, .inl (cB, 3000, .inl K)), (qp, .inl (cI, 18000, .inl P))] H := hP
            have hD : va_D A [(hm, .inr (1, [.ref a, .ref b, .ref qa, .ref qu, .ref qb, .ref qh, .ref qm])), (a, .inr (6, [.ref qk, .ref qp, .int (nI n), .int (bz fu), .int (bz fa)])), (qk, .inl (cB, 3000, .inl K)), (qp, .inl (cI, 18000, .inl P))] := hD
            refine W.eq (g2 := F0 m 53 ls [.int (P (6 * j + k))]) rfl ?_
            exact ct_reti hQ hx hb hr hlocks hP hD hS () [(hm, .inr (1, [.ref a, .ref b, .ref qa, .ref qu, .ref qb, .ref qh, .ref qm])), (a, .inr (6, [.ref qk, .ref qp, .int (nI n), .int (bz fu), .int (bz fa)])), (qk, .inl (cB, 3000, .inl K)), (qp, .inl (cI, 18000, .inl P))] [0, 1, 2, 3] (by rw [ej, ek, rPlace_g hj hn hk5 (Or.inl (by rw [← ek]; exact c_5))]) (trivial) (rfl) rfl rfl (by omega) (by omega) d_M_place_53
          · skip
            refine lv_aload_n hx hb d_M_place_29 rfl (lv_at hl 0 rfl) ?_
            refine va_get (D := D) (ci := 1) (v := .ref a) (C := R_M) (T := T_M) (N := 7) hx hb hts (ui_M _) hown hK hP 0 rfl rfl 0 (by decide) (hts _ (gwc gw_528)) (fun _ h9 => h9) rfl d_M_place_30 ?_
            refine va_getN (D := D) (ci := 6) (v := .ref qk) (C := R_MPath) (T := T_MPath) (N := 5) hx hb hts (ui_MPath _) hown hK hP 1 rfl rfl 0 (by decide) ((amb_nw_10 hM).use rfl) (fun _ h9 => h9) rfl d_M_place_33 ?_
            refine lv_iload_n hx hb d_M_place_36 rfl (lv_at hl 1 rfl) ?_
            refine tp_i (nI j) (ej) ?_
            refine ld_b hx hb hK hP 2 1 rfl rfl j (by omega) (by omega) d_M_place_37 ?_
            refine lv_iconst (v := 2) hx hb d_M_place_38 (by decide) ?_
            refine lv_icmp_eq (tgt := 44) hx hb d_M_place_39 (by decide) (fun c_7 => ?_) (fun c_7 => ?_)
            · skip
              refine lv_aload_n hx hb d_M_place_44 rfl (lv_at hl 0 rfl) ?_
              refine va_get (D := D) (ci := 1) (v := .ref a) (C := R_M) (T := T_M) (N := 7) hx hb hts (ui_M _) hown hK hP 0 rfl rfl 0 (by decide) (hts _ (gwc gw_528)) (fun _ h9 => h9) rfl d_M_place_45 ?_
              refine lv_iload_n hx hb d_M_place_48 rfl (lv_at hl 1 rfl) ?_
              refine tp_i (nI j) (ej) ?_
              refine lv_iload_n hx hb d_M_place_49 rfl (lv_at hl 2 rfl) ?_
              refine tp_i (nI k) (ek) ?_
              refine ct_callV (ci := 6) (q0 := 1) (As := [.int (nI j), .int (nI k)]) (rest := []) (wr := [(hm, .inr (1, [.ref a, .ref b, .ref qa, .ref qu, .ref qb, .ref qh, .ref qm]))]) (n := 2) (c_MPath_get l D cI cB cJ qQ a qk qp n K P fu fa j k (by omega) (by omega)) hx hb hml hown hts (amb_ok qQ) hK hP hD hS hA hM (gi_V gw_559 gw_560 gw_561 gw_34 gw_562) rfl (by decide +kernel) ⟨by omega, by omega⟩ [1, 2, 3] [0] rfl rfl rfl rfl (by decide) rfl rfl rfl hl.1 rfl (Nat.le_of_ble_eq_true rfl) d_M_place_50 ⟨by omega, by omega⟩ (fun u_8 H locs hok hP hD hS => ?_)
              have hP : va_P D cl [(hm, .inr (1, [.ref a, .ref b, .ref qa, .ref qu, .ref qb, .ref qh, .ref qm])), (a, .inr (6, [.ref qk, .ref qp, .int (nI n), .int (bz fu), .int (bz fa)])), (qk, .inl (cB, 3000, .inl K)), (qp, .inl (cI, 18000, .inl P))] H := hP
              have hD : va_D A [(hm, .inr (1, [.ref a, .ref b, .ref qa, .ref qu, .ref qb, .ref qh, .ref qm])), (a, .inr (6, [.ref qk, .ref qp, .int (nI n), .int (bz fu), .int (bz fa)])), (qk, .inl (cB, 3000, .inl K)), (qp, .inl (cI, 18000, .inl P))] := hD
              refine W.eq (g2 := F0 m 53 ls [.int (P (6 * j + k))]) rfl ?_
              exact ct_reti hQ hx hb hr hlocks hP hD hS () [(hm, .inr (1, [.ref a, .ref b, .ref qa, .ref qu, .ref qb, .ref qh, .ref qm])), (a, .inr (6, [.ref qk, .ref qp, .int (nI n), .int (bz fu), .int (bz fa)])), (qk, .inl (cB, 3000, .inl K)), (qp, .inl (cI, 18000, .inl P))] [0, 1, 2, 3] (by rw [ej, ek, rPlace_g hj hn hk5 (Or.inr c_7)]) (trivial) (rfl) rfl rfl (by omega) (by omega) d_M_place_53
            · skip
              refine lv_iconst (v := 0) hx hb d_M_place_42 (by decide) ?_
              exact ct_reti hQ hx hb hr hlocks hP hD hS () [(hm, .inr (1, [.ref a, .ref b, .ref qa, .ref qu, .ref qb, .ref qh, .ref qm])), (a, .inr (6, [.ref qk, .ref qp, .int (nI n), .int (bz fu), .int (bz fa)])), (qk, .inl (cB, 3000, .inl K)), (qp, .inl (cI, 18000, .inl P))] [0, 1, 2, 3] (by rw [ej, ek, rPlace_z hj hn hk5 (by rw [← ek]; exact c_5) c_7]) (trivial) (rfl) rfl rfl (by omega) (by omega) d_M_place_43
set_option maxHeartbeats 4000000 in
set_option maxRecDepth 100000 in
/-- axes -/
theorem c_M_axes (l : Launch) (D : va_G) (cI cB cJ : ClassId) (qQ : Nat) (hm : Nat) (a : Nat) (b : Nat) (qa : Nat) (qu : Nat) (qb : Nat) (qh : Nat) (qm : Nat) (Ax : Nat → Int64) (p_ : Int32) (q_ : Int32) (r_ : Int32) (s_ : Int32)  : ct l D cl [(cI, .int), (cB, .byte), (cJ, .long)] (amb qQ) y_M_axes w_M_axes 1 21 (0) (0) [.ref hm, .int p_, .int q_, .int r_, .int s_] [(hm, .inr (1, [.ref a, .ref b, .ref qa, .ref qu, .ref qb, .ref qh, .ref qm])), (qa, .inl (cJ, 4, .inr (.inl Ax)))] (fun u_ : Bool × (Nat → Int64) => match u_ with | (r, Ax') => (r, ax4 Ax') = rAxes (ax4 Ax) p_ q_ r_ s_) (fun u_ : Bool × (Nat → Int64) => match u_ with | (r, Ax') => some (.int (bz r))) (fun u_ : Bool × (Nat → Int64) => match u_ with | (r, Ax') => [(hm, .inr (1, [.ref a, .ref b, .ref qa, .ref qu, .ref qb, .ref qh, .ref qm])), (qa, .inl (cJ, 4, .inr (.inl Ax')))]) := by
  refine ct_ofW (cc := b_M_axes) (maxL := 5) (ret := (some .boolean)) (by decide) rfl (Nat.le_of_ble_eq_true rfl) ?_
  intro p e R s m args below meth c A Q ls hx hb hr hml hts hown hlocks hname hRf hRc hRs hRl hQ hK hP hD hS hA hM hl
  have hl : lv_has ls 5 [(0, .ref hm), (1, .int p_), (2, .int q_), (3, .int r_), (4, .int s_)] := hl
  refine lv_iload_n hx hb d_M_axes_0 rfl (lv_at hl 1 rfl) ?_
  refine lv_i2l (v := p_.toInt64) hx hb d_M_axes_1 rfl ?_
  refine ct_callSN (av := [.long p_.toInt64]) (rest := []) (wr := [(hm, .inr (1, [.ref a, .ref b, .ref qa, .ref qu, .ref qb, .ref qh, .ref qm])), (qa, .inl (cJ, 4, .inr (.inl Ax)))]) (n := 1) (c_MPath_isFar l D cI cB cJ qQ p_.toInt64 ) hx hb hml hown hts (amb_ok qQ) hK hP hD hS hA hM (gi_N gw_589) rfl (amb_nw_14 hM) (hts _ (gwc gw_34)) (hts _ (gwc gw_588)) (by decide +kernel) ⟨by omega, by omega⟩ [] [0, 1] rfl rfl rfl rfl (by decide) rfl hl.1 rfl (Nat.le_of_ble_eq_true rfl) d_M_axes_2 ⟨by omega, by omega⟩ (fun u_1 H locs hok hP hD hS => ?_)
  have hP : va_P D cl [(hm, .inr (1, [.ref a, .ref b, .ref qa, .ref qu, .ref qb, .ref qh, .ref qm])), (qa, .inl (cJ, 4, .inr (.inl Ax)))] H := hP
  have hD : va_D A [(hm, .inr (1, [.ref a, .ref b, .ref qa, .ref qu, .ref qb, .ref qh, .ref qm])), (qa, .inl (cJ, 4, .inr (.inl Ax)))] := hD
  refine W.eq (g2 := F0 m 5 ls [.int (bz (fr p_.toInt64))]) rfl ?_
  refine bb_ne (tgt := 33) hx hb d_M_axes_5 (by decide) (fun c_2 => ?_) (fun c_2 => ?_)
  · skip
    refine lv_iconst (v := 0) hx hb d_M_axes_33 (by decide) ?_
    exact ct_retz hQ hx hb hr hlocks hP hD hS (false, Ax) [(hm, .inr (1, [.ref a, .ref b, .ref qa, .ref qu, .ref qb, .ref qh, .ref qm])), (qa, .inl (cJ, 4, .inr (.inl Ax)))] [0, 1] (rfl) (by simp [rAxes, c_2]) (rfl) rfl rfl (by decide) (by omega) (by omega) d_M_axes_34
  · skip
    refine lv_iload_n hx hb d_M_axes_8 rfl (lv_at hl 2 rfl) ?_
    refine lv_i2l (v := q_.toInt64) hx hb d_M_axes_9 rfl ?_
    refine ct_callSN (av := [.long q_.toInt64]) (rest := []) (wr := [(hm, .inr (1, [.ref a, .ref b, .ref qa, .ref qu, .ref qb, .ref qh, .ref qm])), (qa, .inl (cJ, 4, .inr (.inl Ax)))]) (n := 1) (c_MPath_isFar l D cI cB cJ qQ q_.toInt64 ) hx hb hml hown hts (amb_ok qQ) hK hP hD hS hA hM (gi_N gw_589) rfl (amb_nw_14 hM) (hts _ (gwc gw_34)) (hts _ (gwc gw_588)) (by decide +kernel) ⟨by omega, by omega⟩ [] [0, 1] rfl rfl rfl rfl (by decide) rfl hl.1 rfl (Nat.le_of_ble_eq_true rfl) d_M_axes_10 ⟨by omega, by omega⟩ (fun u_3 H locs hok hP hD hS => ?_)
    have hP : va_P D cl [(hm, .inr (1, [.ref a, .ref b, .ref qa, .ref qu, .ref qb, .ref qh, .ref qm])), (qa, .inl (cJ, 4, .inr (.inl Ax)))] H := hP
    have hD : va_D A [(hm, .inr (1, [.ref a, .ref b, .ref qa, .ref qu, .ref qb, .ref qh, .ref qm])), (qa, .inl (cJ, 4, .inr (.inl Ax)))] := hD
    refine W.eq (g2 := F0 m 13 ls [.int (bz (fr q_.toInt64))]) rfl ?_
    refine bb_ne (tgt := 33) hx hb d_M_axes_13 (by decide) (fun c_4 => ?_) (fun c_4 => ?_)
    · skip
      refine lv_iconst (v := 0) hx hb d_M_axes_33 (by decide) ?_
      exact ct_retz hQ hx hb hr hlocks hP hD hS (false, Ax) [(hm, .inr (1, [.ref a, .ref b, .ref qa, .ref qu, .ref qb, .ref qh, .ref qm])), (qa, .inl (cJ, 4, .inr (.inl Ax)))] [0, 1] (rfl) (by simp [rAxes, c_2, c_4]) (rfl) rfl rfl (by decide) (by omega) (by omega) d_M_axes_34
    · skip
      refine lv_iload_n hx hb d_M_axes_16 rfl (lv_at hl 3 rfl) ?_
      refine lv_i2l (v := r_.toInt64) hx hb d_M_axes_17 rfl ?_
      refine ct_callSN (av := [.long r_.toInt64]) (rest := []) (wr := [(hm, .inr (1, [.ref a, .ref b, .ref qa, .ref qu, .ref qb, .ref qh, .ref qm])), (qa, .inl (cJ, 4, .inr (.inl Ax)))]) (n := 1) (c_MPath_isFar l D cI cB cJ qQ r_.toInt64 ) hx hb hml hown hts (amb_ok qQ) hK hP hD hS hA hM (gi_N gw_589) rfl (amb_nw_14 hM) (hts _ (gwc gw_34)) (hts _ (gwc gw_588)) (by decide +kernel) ⟨by omega, by omega⟩ [] [0, 1] rfl rfl rfl rfl (by decide) rfl hl.1 rfl (Nat.le_of_ble_eq_true rfl) d_M_axes_18 ⟨by omega, by omega⟩ (fun u_5 H locs hok hP hD hS => ?_)
      have hP : va_P D cl [(hm, .inr (1, [.ref a, .ref b, .ref qa, .ref qu, .ref qb, .ref qh, .ref qm])), (qa, .inl (cJ, 4, .inr (.inl Ax)))] H := hP
      have hD : va_D A [(hm, .inr (1, [.ref a, .ref b, .ref qa, .ref qu, .ref qb, .ref qh, .ref qm])), (qa, .inl (cJ, 4, .inr (.inl Ax)))] := hD
      refine W.eq (g2 := F0 m 21 ls [.int (bz (fr r_.toInt64))]) rfl ?_
      refine bb_ne (tgt := 33) hx hb d_M_axes_21 (by decide) (fun c_6 => ?_) (fun c_6 => ?_)
      · skip
        refine lv_iconst (v := 0) hx hb d_M_axes_33 (by decide) ?_
        exact ct_retz hQ hx hb hr hlocks hP hD hS (false, Ax) [(hm, .inr (1, [.ref a, .ref b, .ref qa, .ref qu, .ref qb, .ref qh, .ref qm])), (qa, .inl (cJ, 4, .inr (.inl Ax)))] [0, 1] (rfl) (by simp [rAxes, c_2, c_4, c_6]) (rfl) rfl rfl (by decide) (by omega) (by omega) d_M_axes_34
      · skip
        refine lv_iload hx hb d_M_axes_24 (lv_at hl 4 rfl) ?_
        refine lv_i2l (v := s_.toInt64) hx hb d_M_axes_26 rfl ?_
        refine ct_callSN (av := [.long s_.toInt64]) (rest := []) (wr := [(hm, .inr (1, [.ref a, .ref b, .ref qa, .ref qu, .ref qb, .ref qh, .ref qm])), (qa, .inl (cJ, 4, .inr (.inl Ax)))]) (n := 1) (c_MPath_isFar l D cI cB cJ qQ s_.toInt64 ) hx hb hml hown hts (amb_ok qQ) hK hP hD hS hA hM (gi_N gw_589) rfl (amb_nw_14 hM) (hts _ (gwc gw_34)) (hts _ (gwc gw_588)) (by decide +kernel) ⟨by omega, by omega⟩ [] [0, 1] rfl rfl rfl rfl (by decide) rfl hl.1 rfl (Nat.le_of_ble_eq_true rfl) d_M_axes_27 ⟨by omega, by omega⟩ (fun u_7 H locs hok hP hD hS => ?_)
        have hP : va_P D cl [(hm, .inr (1, [.ref a, .ref b, .ref qa, .ref qu, .ref qb, .ref qh, .ref qm])), (qa, .inl (cJ, 4, .inr (.inl Ax)))] H := hP
        have hD : va_D A [(hm, .inr (1, [.ref a, .ref b, .ref qa, .ref qu, .ref qb, .ref qh, .ref qm])), (qa, .inl (cJ, 4, .inr (.inl Ax)))] := hD
        refine W.eq (g2 := F0 m 30 ls [.int (bz (fr s_.toInt64))]) rfl ?_
        refine bb_eq (tgt := 35) hx hb d_M_axes_30 (by decide) (fun c_8 => ?_) (fun c_8 => ?_)
        · skip
          refine lv_aload_n hx hb d_M_axes_35 rfl (lv_at hl 0 rfl) ?_
          refine va_get (D := D) (ci := 1) (v := .ref qa) (C := R_M) (T := T_M) (N := 7) hx hb hts (ui_M _) hown hK hP 0 rfl rfl 2 (by decide) (hts _ (gwc gw_530)) (fun _ h9 => h9) rfl d_M_axes_36 ?_
          refine lv_iconst (v := 0) hx hb d_M_axes_39 (by decide) ?_
          refine lv_iload_n hx hb d_M_axes_40 rfl (lv_at hl 1 rfl) ?_
          refine lv_i2l (v := p_.toInt64) hx hb d_M_axes_41 rfl ?_
          refine st_l hx hb hK hP hD hS 1 2 rfl rfl 0 (by omega) (by omega) d_M_axes_42 (fun H locs hP hD hS => ?_)
          have hP : va_P D cl [(hm, .inr (1, [.ref a, .ref b, .ref qa, .ref qu, .ref qb, .ref qh, .ref qm])), (qa, .inl (cJ, 4, .inr (.inl (vp_updL Ax 0 p_.toInt64))))] H := hP
          have hD : va_D A [(hm, .inr (1, [.ref a, .ref b, .ref qa, .ref qu, .ref qb, .ref qh, .ref qm])), (qa, .inl (cJ, 4, .inr (.inl (vp_updL Ax 0 p_.toInt64))))] := hD
          refine lv_aload_n hx hb d_M_axes_43 rfl (lv_at hl 0 rfl) ?_
          refine va_get (D := D) (ci := 1) (v := .ref qa) (C := R_M) (T := T_M) (N := 7) hx hb hts (ui_M _) hown hK hP 0 rfl rfl 2 (by decide) (hts _ (gwc gw_530)) (fun _ h9 => h9) rfl d_M_axes_44 ?_
          refine lv_iconst (v := 1) hx hb d_M_axes_47 (by decide) ?_
          refine lv_iload_n hx hb d_M_axes_48 rfl (lv_at hl 2 rfl) ?_
          refine lv_i2l (v := q_.toInt64) hx hb d_M_axes_49 rfl ?_
          refine st_l hx hb hK hP hD hS 1 2 rfl rfl 1 (by omega) (by omega) d_M_axes_50 (fun H locs hP hD hS => ?_)
          have hP : va_P D cl [(hm, .inr (1, [.ref a, .ref b, .ref qa, .ref qu, .ref qb, .ref qh, .ref qm])), (qa, .inl (cJ, 4, .inr (.inl (vp_updL (vp_updL Ax 0 p_.toInt64) 1 q_.toInt64))))] H := hP
          have hD : va_D A [(hm, .inr (1, [.ref a, .ref b, .ref qa, .ref qu, .ref qb, .ref qh, .ref qm])), (qa, .inl (cJ, 4, .inr (.inl (vp_updL (vp_updL Ax 0 p_.toInt64) 1 q_.toInt64))))] := hD
          refine lv_aload_n hx hb d_M_axes_51 rfl (lv_at hl 0 rfl) ?_
          refine va_get (D := D) (ci := 1) (v := .ref qa) (C := R_M) (T := T_M) (N := 7) hx hb hts (ui_M _) hown hK hP 0 rfl rfl 2 (by decide) (hts _ (gwc gw_530)) (fun _ h9 => h9) rfl d_M_axes_52 ?_
          refine lv_iconst (v := 2) hx hb d_M_axes_55 (by decide) ?_
          refine lv_iload_n hx hb d_M_axes_56 rfl (lv_at hl 3 rfl) ?_
          refine lv_i2l (v := r_.toInt64) hx hb d_M_axes_57 rfl ?_
          refine st_l hx hb hK hP hD hS 1 2 rfl rfl 2 (by omega) (by omega) d_M_axes_58 (fun H locs hP hD hS => ?_)
          have hP : va_P D cl [(hm, .inr (1, [.ref a, .ref b, .ref qa, .ref qu, .ref qb, .ref qh, .ref qm])), (qa, .inl (cJ, 4, .inr (.inl (vp_updL (vp_updL (vp_updL Ax 0 p_.toInt64) 1 q_.toInt64) 2 r_.toInt64))))] H := hP
          have hD : va_D A [(hm, .inr (1, [.ref a, .ref b, .ref qa, .ref qu, .ref qb, .ref qh, .ref qm])), (qa, .inl (cJ, 4, .inr (.inl (vp_updL (vp_updL (vp_updL Ax 0 p_.toInt64) 1 q_.toInt64) 2 r_.toInt64))))] := hD
          refine lv_aload_n hx hb d_M_axes_59 rfl (lv_at hl 0 rfl) ?_
          refine va_get (D := D) (ci := 1) (v := .ref qa) (C := R_M) (T := T_M) (N := 7) hx hb hts (ui_M _) hown hK hP 0 rfl rfl 2 (by decide) (hts _ (gwc gw_530)) (fun _ h9 => h9) rfl d_M_axes_60 ?_
          refine lv_iconst (v := 3) hx hb d_M_axes_63 (by decide) ?_
          refine lv_iload hx hb d_M_axes_64 (lv_at hl 4 rfl) ?_
          refine lv_i2l (v := s_.toInt64) hx hb d_M_axes_66 rfl ?_
          refine st_l hx hb hK hP hD hS 1 2 rfl rfl 3 (by omega) (by omega) d_M_axes_67 (fun H locs hP hD hS => ?_)
          have hP : va_P D cl [(hm, .inr (1, [.ref a, .ref b, .ref qa, .ref qu, .ref qb, .ref qh, .ref qm])), (qa, .inl (cJ, 4, .inr (.inl (vp_updL (vp_updL (vp_updL (vp_updL Ax 0 p_.toInt64) 1 q_.toInt64) 2 r_.toInt64) 3 s_.toInt64))))] H := hP
          have hD : va_D A [(hm, .inr (1, [.ref a, .ref b, .ref qa, .ref qu, .ref qb, .ref qh, .ref qm])), (qa, .inl (cJ, 4, .inr (.inl (vp_updL (vp_updL (vp_updL (vp_updL Ax 0 p_.toInt64) 1 q_.toInt64) 2 r_.toInt64) 3 s_.toInt64))))] := hD
          refine lv_iconst (v := 1) hx hb d_M_axes_68 (by decide) ?_
          exact ct_retz hQ hx hb hr hlocks hP hD hS (true, vp_updL (vp_updL (vp_updL (vp_updL Ax 0 p_.toInt64) 1 q_.toInt64) 2 r_.toInt64) 3 s_.toInt64) [(hm, .inr (1, [.ref a, .ref b, .ref qa, .ref qu, .ref qb, .ref qh, .ref qm])), (qa, .inl (cJ, 4, .inr (.inl (vp_updL (vp_updL (vp_updL (vp_updL Ax 0 p_.toInt64) 1 q_.toInt64) 2 r_.toInt64) 3 s_.toInt64))))] [0, 1] (rfl) (by simp [rAxes, ax4, vp_updL, c_2, c_4, c_6, c_8]) (rfl) rfl rfl (by decide) (by omega) (by omega) d_M_axes_69
        · skip
          refine lv_iconst (v := 0) hx hb d_M_axes_33 (by decide) ?_
          exact ct_retz hQ hx hb hr hlocks hP hD hS (false, Ax) [(hm, .inr (1, [.ref a, .ref b, .ref qa, .ref qu, .ref qb, .ref qh, .ref qm])), (qa, .inl (cJ, 4, .inr (.inl Ax)))] [0, 1] (rfl) (by simp [rAxes, c_2, c_4, c_6, c_8]) (rfl) rfl rfl (by decide) (by omega) (by omega) d_M_axes_34
end
section
section CTW
variable {p : Program} {l : Launch} {e : Env} {R : Room} {s : State} {m : MethodId} {args : Array Value} {below : List Frame} {meth : Method} {c : Code} {H : Heap} {locs : List Loc} {cells slots : Nat} {Q : State → Prop}
variable {cc : ByteArray} {pc : Nat} {ls : Array Slot} {rest st : List Value} {D : va_G} {cl : List vw_C} {A : Nat → Prop} {tys : List (ClassId × FieldType)} {ws : va_W}
variable {AM : (Nat → Prop) → State → Heap → Prop} {S : Type} {ok : S → Prop} {rv : S → Option Value} {w1 : S → va_W} {mc ms : Nat}
variable {y : MethodName} {w w' : List Cond} {fr lo : Nat} {av As : List Value} {w0 : va_W} {wr : va_W} {bytes : ByteArray} {maxL nL n index ci q0 N b : Nat} {ret : Option FieldType} {Ts : List Cond} {own C host : String} {T : u_T} {fs : List Value}
/-- invokevirtual over a deep operand stack -/
theorem ct_callVW (wd : Nat) (h8 : 8 ≤ wd) (hM : ct l D cl tys AM y w fr lo mc ms (.ref b :: As) w0 ok rv w1) (hx : p.tables.exec = Jvm.exec) (hb : c.code = cc) (hml : c.maxLocals = nL) (hown : s.vm.findClass own = some m.cls) (hts : ∀ q ∈ Ts, q.before args s = true) (hAM : ctA AM) (hK : va_K D cl tys s) (hP : va_P D cl ws H) (hD : va_D A ws) (hS : va_S A s.heap H locs) (hA : ∀ q : Nat, s.heap.size ≤ q → A q) (hMM : AM A s s.heap)
    (hG : GoodIn Ts (wsV own index C y w)) (hw : w = Cond.code y bytes maxL ret :: w') (hd : y.cls = C ∧ y.cls ≠ "java/lang/invoke/MethodHandle" ∧ y.cls ≠ "java/lang/invoke/VarHandle" ∧ (parseMethodDescriptor y.desc).map (fun d => d.parameters.length) = some n) (hR : fr + 1 ≤ R.frames ∧ wd + (maxL + 11) + lo ≤ R.locals)
    (isC isR : List Nat) (hC : isC.map (fun i => ws[i]?) = w0.map some) (hRr : isR.map (fun i => ws[i]?) = wr.map some) (hnC : va_nd isC = true) (hnR : va_nd isR = true) (hdis : ∀ i ∈ isR, i ∉ isC) (hrc : cl[ci]? = some (C, T, N)) (hre : ws[q0]? = some (b, .inr (ci, fs))) (hn : As.length = n) (hsize : ls.size = nL) (hst : st = As.reverse ++ .ref b :: rest) (hW : (rest.map fun v => v.category).sum ≤ wd) (hdg : decode cc pc = .ok (.invokevirtual index, 3)) (hf : cells + mc ≤ R.cells ∧ slots + ms ≤ R.slots)
    (kk : ∀ (u : S) (H1 : Heap) (locs1 : List Loc), ok u → va_P D cl (wr ++ w1 u) H1 → va_D A (wr ++ w1 u) → va_S A s.heap H1 locs1 → W p l e R s m args below meth c H1 locs1 (cells + mc) (slots + ms) Q (F0 m (pc + 3) ls ((rv u).toList ++ rest))) : W p l e R s m args below meth c H locs cells slots Q (F0 m pc ls st) := by
  refine ct_back (a := (Value.ref b :: As).toArray) hP hD hS hA isC isR hC hRr hnR hdis ?_ kk
  have cw := cwV (R := R) (rm := { frames := fr, cells := mc, slots := ms, locals := lo }) (mc := mc) (ms := ms) n hts hG hw rfl rfl hd ⟨hR.1, Nat.le_trans (by show 8 + (maxL + 11) + lo ≤ wd + (maxL + 11) + lo; omega) hR.2⟩
  obtain ⟨⟨hrc1, hrs1, hfr1, -, hws1, hcw1, hcode1, hini1, hy1, hlen1, hl1⟩, hin1, hse1⟩ := cw
  have hB : Back l R p e below s args y 3 wd (PreOf R mc ms (ctP D cl tys AM (.ref b :: As) w0 H.size)) (PostOf (ctQ D cl ok rv w1 (va_A w0 H.size)) mc ms (va_A w0 H.size)) :=
    back_of (bytes := bytes) (maxL := maxL) (ret := ret) (hM H.size) (ctP_blind hAM) hrc1 hrs1 hfr1 hR.2 hws1 hcw1 (fun a' U hW9 => word_at hW9 (Or.inl (by first | rfl | simp [Cond.onTables, Cond.keeps, Cond.steady])) hini1)
  obtain ⟨cellB, hcB, hoB, hclB⟩ := va_recv hK hP hrc hre
  intro T0 hT0 X
  obtain ⟨v, vm₁, ⟨U', l2, c2, s2⟩, hW₁, X', ⟨g', mk, t, L, e1, e2, hq, h1, hL, h2, h3⟩, st9⟩ := callV X hx (C := C) (bytes := bytes) (maxL := maxL) (ret := ret) hown hl1 hin1 hse1 hcode1 hy1 hB (by rw [hT0]; exact hcB) hoB hclB (g := F0 m pc ls st) rfl (hsize.trans hml.symm) (argsL := As) (rest := rest) (fun sig h => hn.trans (hlen1 sig h)) hst (by
      have h9 : (F0 m pc ls st).monitorRoom = 0 := rfl
      rw [h9]; omega) (by rw [hb]; exact hdg)
    (fun vm₁ hW₁ => ⟨hf.1, hf.2, ctP_at hAM hK hP hD hS hA hMM isC hC hnC (T0.setVm vm₁) hT0 hW₁⟩)
  dsimp only [Pt.U, Pt.locs, Pt.cells, Pt.slots] at X' e1 e2 h1 h2 h3 st9
  subst h1; subst h2; subst h3
  exact ⟨v, (T0.setVm vm₁).calling g' mk (Value.ref b :: As).toArray, t, U', L, hT0, X', hL, e1, e2, hq, st9⟩
end CTW
/-! small rows of longs, element by element -/
def f8 (a0 a1 a2 a3 a4 a5 a6 a7 : Int64) : Nat → Int64 := fun i => match i with | 0 => a0 | 1 => a1 | 2 => a2 | 3 => a3 | 4 => a4 | 5 => a5 | 6 => a6 | 7 => a7 | _ => 0
def f4 (a0 a1 a2 a3 : Int64) : Nat → Int64 := fun i => match i with | 0 => a0 | 1 => a1 | 2 => a2 | 3 => a3 | _ => 0
section F8
variable {a0 a1 a2 a3 a4 a5 a6 a7 x : Int64}
theorem f8_0 : vp_updL (f8 a0 a1 a2 a3 a4 a5 a6 a7) 0 x = f8 x a1 a2 a3 a4 a5 a6 a7 := by
  funext i
  match i with
  | 0 => rfl
  | 1 => rfl
  | 2 => rfl
  | 3 => rfl
  | 4 => rfl
  | 5 => rfl
  | 6 => rfl
  | 7 => rfl
  | n + 8 => rfl
theorem f8_1 : vp_updL (f8 a0 a1 a2 a3 a4 a5 a6 a7) 1 x = f8 a0 x a2 a3 a4 a5 a6 a7 := by
  funext i
  match i with
  | 0 => rfl
  | 1 => rfl
  | 2 => rfl
  | 3 => rfl
  | 4 => rfl
  | 5 => rfl
  | 6 => rfl
  | 7 => rfl
  | n + 8 => rfl
theorem f8_2 : vp_updL (f8 a0 a1 a2 a3 a4 a5 a6 a7) 2 x = f8 a0 a1 x a3 a4 a5 a6 a7 := by
  funext i
  match i with
  | 0 => rfl
  | 1 => rfl
  | 2 => rfl
  | 3 => rfl
  | 4 => rfl
  | 5 => rfl
  | 6 => rfl
  | 7 => rfl
  | n + 8 => rfl
theorem f8_3 : vp_updL (f8 a0 a1 a2 a3 a4 a5 a6 a7) 3 x = f8 a0 a1 a2 x a4 a5 a6 a7 := by
  funext i
  match i with
  | 0 => rfl
  | 1 => rfl
  | 2 => rfl
  | 3 => rfl
  | 4 => rfl
  | 5 => rfl
  | 6 => rfl
  | 7 => rfl
  | n + 8 => rfl
theorem f8_4 : vp_updL (f8 a0 a1 a2 a3 a4 a5 a6 a7) 4 x = f8 a0 a1 a2 a3 x a5 a6 a7 := by
  funext i
  match i with
  | 0 => rfl
  | 1 => rfl
  | 2 => rfl
  | 3 => rfl
  | 4 => rfl
  | 5 => rfl
  | 6 => rfl
  | 7 => rfl
  | n + 8 => rfl
theorem f8_5 : vp_updL (f8 a0 a1 a2 a3 a4 a5 a6 a7) 5 x = f8 a0 a1 a2 a3 a4 x a6 a7 := by
  funext i
  match i with
  | 0 => rfl
  | 1 => rfl
  | 2 => rfl
  | 3 => rfl
  | 4 => rfl
  | 5 => rfl
  | 6 => rfl
  | 7 => rfl
  | n + 8 => rfl
theorem f8_6 : vp_updL (f8 a0 a1 a2 a3 a4 a5 a6 a7) 6 x = f8 a0 a1 a2 a3 a4 a5 x a7 := by
  funext i
  match i with
  | 0 => rfl
  | 1 => rfl
  | 2 => rfl
  | 3 => rfl
  | 4 => rfl
  | 5 => rfl
  | 6 => rfl
  | 7 => rfl
  | n + 8 => rfl
theorem f8_7 : vp_updL (f8 a0 a1 a2 a3 a4 a5 a6 a7) 7 x = f8 a0 a1 a2 a3 a4 a5 a6 x := by
  funext i
  match i with
  | 0 => rfl
  | 1 => rfl
  | 2 => rfl
  | 3 => rfl
  | 4 => rfl
  | 5 => rfl
  | 6 => rfl
  | 7 => rfl
  | n + 8 => rfl
theorem f4_0 : vp_updL (f4 a0 a1 a2 a3) 0 x = f4 x a1 a2 a3 := by
  funext i
  match i with
  | 0 => rfl
  | 1 => rfl
  | 2 => rfl
  | 3 => rfl
  | n + 4 => rfl
theorem f4_1 : vp_updL (f4 a0 a1 a2 a3) 1 x = f4 a0 x a2 a3 := by
  funext i
  match i with
  | 0 => rfl
  | 1 => rfl
  | 2 => rfl
  | 3 => rfl
  | n + 4 => rfl
theorem f4_2 : vp_updL (f4 a0 a1 a2 a3) 2 x = f4 a0 a1 x a3 := by
  funext i
  match i with
  | 0 => rfl
  | 1 => rfl
  | 2 => rfl
  | 3 => rfl
  | n + 4 => rfl
theorem f4_3 : vp_updL (f4 a0 a1 a2 a3) 3 x = f4 a0 a1 a2 x := by
  funext i
  match i with
  | 0 => rfl
  | 1 => rfl
  | 2 => rfl
  | 3 => rfl
  | n + 4 => rfl
theorem f8_z : (fun _ : Nat => (0 : Int64)) = f8 0 0 0 0 0 0 0 0 := by
  funext i
  match i with
  | 0 => rfl
  | 1 => rfl
  | 2 => rfl
  | 3 => rfl
  | 4 => rfl
  | 5 => rfl
  | 6 => rfl
  | 7 => rfl
  | n + 8 => rfl
theorem f4_z : (fun _ : Nat => (0 : Int64)) = f4 0 0 0 0 := by
  funext i
  match i with
  | 0 => rfl
  | 1 => rfl
  | 2 => rfl
  | 3 => rfl
  | n + 4 => rfl
end F8
end
section
theorem d_Math_abs_0 : decode b_Math_abs 0 = .ok (.lload_n 0, 1) := by decide +kernel
theorem d_Math_abs_1 : decode b_Math_abs 1 = .ok (.lconst 0, 1) := by decide +kernel
theorem d_Math_abs_2 : decode b_Math_abs 2 = .ok (.lcmp, 1) := by decide +kernel
theorem d_Math_abs_3 : decode b_Math_abs 3 = .ok (.ifCond .ge 8, 3) := by decide +kernel
theorem d_Math_abs_6 : decode b_Math_abs 6 = .ok (.lload_n 0, 1) := by decide +kernel
theorem d_Math_abs_7 : decode b_Math_abs 7 = .ok (.lneg, 1) := by decide +kernel
theorem d_Math_abs_8 : decode b_Math_abs 8 = .ok (.goto 4, 3) := by decide +kernel
theorem d_Math_abs_11 : decode b_Math_abs 11 = .ok (.lload_n 0, 1) := by decide +kernel
theorem d_Math_abs_12 : decode b_Math_abs 12 = .ok (.lreturn, 1) := by decide +kernel
theorem d_Math_floorDiv_0 : decode b_Math_floorDiv 0 = .ok (.lload_n 0, 1) := by decide +kernel
theorem d_Math_floorDiv_1 : decode b_Math_floorDiv 1 = .ok (.lload_n 2, 1) := by decide +kernel
theorem d_Math_floorDiv_2 : decode b_Math_floorDiv 2 = .ok (.ldiv, 1) := by decide +kernel
theorem d_Math_floorDiv_3 : decode b_Math_floorDiv 3 = .ok (.lstore 4, 2) := by decide +kernel
theorem d_Math_floorDiv_5 : decode b_Math_floorDiv 5 = .ok (.lload_n 0, 1) := by decide +kernel
theorem d_Math_floorDiv_6 : decode b_Math_floorDiv 6 = .ok (.lload_n 2, 1) := by decide +kernel
theorem d_Math_floorDiv_7 : decode b_Math_floorDiv 7 = .ok (.lxor, 1) := by decide +kernel
theorem d_Math_floorDiv_8 : decode b_Math_floorDiv 8 = .ok (.lconst 0, 1) := by decide +kernel
theorem d_Math_floorDiv_9 : decode b_Math_floorDiv 9 = .ok (.lcmp, 1) := by decide +kernel
theorem d_Math_floorDiv_10 : decode b_Math_floorDiv 10 = .ok (.ifCond .ge 17, 3) := by decide +kernel
theorem d_Math_floorDiv_13 : decode b_Math_floorDiv 13 = .ok (.lload 4, 2) := by decide +kernel
theorem d_Math_floorDiv_15 : decode b_Math_floorDiv 15 = .ok (.lload_n 2, 1) := by decide +kernel
theorem d_Math_floorDiv_16 : decode b_Math_floorDiv 16 = .ok (.lmul, 1) := by decide +kernel
theorem d_Math_floorDiv_17 : decode b_Math_floorDiv 17 = .ok (.lload_n 0, 1) := by decide +kernel
theorem d_Math_floorDiv_18 : decode b_Math_floorDiv 18 = .ok (.lcmp, 1) := by decide +kernel
theorem d_Math_floorDiv_19 : decode b_Math_floorDiv 19 = .ok (.ifCond .eq 8, 3) := by decide +kernel
theorem d_Math_floorDiv_22 : decode b_Math_floorDiv 22 = .ok (.lload 4, 2) := by decide +kernel
theorem d_Math_floorDiv_24 : decode b_Math_floorDiv 24 = .ok (.lconst 1, 1) := by decide +kernel
theorem d_Math_floorDiv_25 : decode b_Math_floorDiv 25 = .ok (.lsub, 1) := by decide +kernel
theorem d_Math_floorDiv_26 : decode b_Math_floorDiv 26 = .ok (.lreturn, 1) := by decide +kernel
theorem d_Math_floorDiv_27 : decode b_Math_floorDiv 27 = .ok (.lload 4, 2) := by decide +kernel
theorem d_Math_floorDiv_29 : decode b_Math_floorDiv 29 = .ok (.lreturn, 1) := by decide +kernel
theorem d_Math_floorMod_0 : decode b_Math_floorMod 0 = .ok (.lload_n 0, 1) := by decide +kernel
theorem d_Math_floorMod_1 : decode b_Math_floorMod 1 = .ok (.lload_n 2, 1) := by decide +kernel
theorem d_Math_floorMod_2 : decode b_Math_floorMod 2 = .ok (.lrem, 1) := by decide +kernel
theorem d_Math_floorMod_3 : decode b_Math_floorMod 3 = .ok (.lstore 4, 2) := by decide +kernel
theorem d_Math_floorMod_5 : decode b_Math_floorMod 5 = .ok (.lload_n 0, 1) := by decide +kernel
theorem d_Math_floorMod_6 : decode b_Math_floorMod 6 = .ok (.lload_n 2, 1) := by decide +kernel
theorem d_Math_floorMod_7 : decode b_Math_floorMod 7 = .ok (.lxor, 1) := by decide +kernel
theorem d_Math_floorMod_8 : decode b_Math_floorMod 8 = .ok (.lconst 0, 1) := by decide +kernel
theorem d_Math_floorMod_9 : decode b_Math_floorMod 9 = .ok (.lcmp, 1) := by decide +kernel
theorem d_Math_floorMod_10 : decode b_Math_floorMod 10 = .ok (.ifCond .ge 15, 3) := by decide +kernel
theorem d_Math_floorMod_13 : decode b_Math_floorMod 13 = .ok (.lload 4, 2) := by decide +kernel
theorem d_Math_floorMod_15 : decode b_Math_floorMod 15 = .ok (.lconst 0, 1) := by decide +kernel
theorem d_Math_floorMod_16 : decode b_Math_floorMod 16 = .ok (.lcmp, 1) := by decide +kernel
theorem d_Math_floorMod_17 : decode b_Math_floorMod 17 = .ok (.ifCond .eq 8, 3) := by decide +kernel
theorem d_Math_floorMod_20 : decode b_Math_floorMod 20 = .ok (.lload 4, 2) := by decide +kernel
theorem d_Math_floorMod_22 : decode b_Math_floorMod 22 = .ok (.lload_n 2, 1) := by decide +kernel
theorem d_Math_floorMod_23 : decode b_Math_floorMod 23 = .ok (.ladd, 1) := by decide +kernel
theorem d_Math_floorMod_24 : decode b_Math_floorMod 24 = .ok (.lreturn, 1) := by decide +kernel
theorem d_Math_floorMod_25 : decode b_Math_floorMod 25 = .ok (.lload 4, 2) := by decide +kernel
theorem d_Math_floorMod_27 : decode b_Math_floorMod 27 = .ok (.lreturn, 1) := by decide +kernel
theorem d_Math_max_0 : decode b_Math_max 0 = .ok (.iload_n 0, 1) := by decide +kernel
theorem d_Math_max_1 : decode b_Math_max 1 = .ok (.iload_n 1, 1) := by decide +kernel
theorem d_Math_max_2 : decode b_Math_max 2 = .ok (.if_icmp .lt 7, 3) := by decide +kernel
theorem d_Math_max_5 : decode b_Math_max 5 = .ok (.iload_n 0, 1) := by decide +kernel
theorem d_Math_max_6 : decode b_Math_max 6 = .ok (.goto 4, 3) := by decide +kernel
theorem d_Math_max_9 : decode b_Math_max 9 = .ok (.iload_n 1, 1) := by decide +kernel
theorem d_Math_max_10 : decode b_Math_max 10 = .ok (.ireturn, 1) := by decide +kernel
theorem d_Math_min_0 : decode b_Math_min 0 = .ok (.iload_n 0, 1) := by decide +kernel
theorem d_Math_min_1 : decode b_Math_min 1 = .ok (.iload_n 1, 1) := by decide +kernel
theorem d_Math_min_2 : decode b_Math_min 2 = .ok (.if_icmp .gt 7, 3) := by decide +kernel
theorem d_Math_min_5 : decode b_Math_min 5 = .ok (.iload_n 0, 1) := by decide +kernel
theorem d_Math_min_6 : decode b_Math_min 6 = .ok (.goto 4, 3) := by decide +kernel
theorem d_Math_min_9 : decode b_Math_min 9 = .ok (.iload_n 1, 1) := by decide +kernel
theorem d_Math_min_10 : decode b_Math_min 10 = .ok (.ireturn, 1) := by decide +kernel
end
section
/-! the reference's arithmetic of arcs -/
def fdv (x y : Int64) : Int64 := if 0 ≤ x ^^^ y then x / y else if x / y * y = x then x / y else x / y - 1
def fmd (x y : Int64) : Int64 := if 0 ≤ x ^^^ y then x - x / y * y else if x - x / y * y = 0 then x - x / y * y else x - x / y * y + y
def plc (t : Int64) : Int64 := fdv (fmd t 5898240 + 45) 90
def mixL (a b t : Int64) : Int64 := a + fdv ((b - a) * t + 32768) 65536
def mx2 (a b c t : Int64) : Int64 := mixL (mixL a b t) (mixL b c t) t
def mx3 (a b c d t : Int64) : Int64 := mixL (mx2 a b c t) (mx2 b c d t) t
abbrev V8 : Type := Int64 × Int64 × Int64 × Int64 × Int64 × Int64 × Int64 × Int64
def befo (u : V8) (t : Int64) : V8 := match u with
  | (u0, u1, u2, u3, u4, u5, u6, u7) => (u0, u1, mixL u0 u2 t, mixL u1 u3 t, mx2 u0 u2 u4 t, mx2 u1 u3 u5 t, mx3 u0 u2 u4 u6 t, mx3 u1 u3 u5 u7 t)
def behi (u : V8) (t : Int64) : V8 := match u with
  | (u0, u1, u2, u3, u4, u5, u6, u7) => (mx3 u0 u2 u4 u6 t, mx3 u1 u3 u5 u7 t, mx2 u2 u4 u6 t, mx2 u3 u5 u7 t, mixL u4 u6 t, mixL u5 u7 t, u6, u7)
def cut8 (u : V8) (a v : Int64) : V8 := if a = 0 then befo u v else behi (befo u v) (fdv (2 * a * 65536 + v) (2 * v))
def rot8 (u : V8) : V8 := match u with
  | (u0, u1, u2, u3, u4, u5, u6, u7) => (-u1, u0, -u3, u2, -u5, u4, -u7, u6)
def qua0 : V8 := (65536, 0, 65536, 36195, 36195, 65536, 0, 65536)
def qv8 (c : Int64) : V8 := if c = 0 then qua0 else if c = 1 then rot8 qua0 else if c = 2 then rot8 (rot8 qua0) else rot8 (rot8 (rot8 qua0))
def frm (k s : Int64) : Int64 := if k = fdv s 5898240 then plc s else 0
def tow (k e : Int64) : Int64 := if k = fdv e 5898240 then plc e else 65536
def aro (mid a b p r : Int64) : Int64 := mid + fdv (a * p + b * r + 32768) 65536
def bArc (d : DS) (px py : Int64) : DS := if d.1.length = 0 then beginD d px py else addD (openD d) 1 px py 0 0 0 0
def cvD (d : DS) (x y : Int64) (ax : Ax4) (u : V8) (back : Bool) : DS := match ax, u with
  | (p, q, r, s), (u0, u1, u2, u3, u4, u5, u6, u7) =>
    if back then addD d 2 (aro x u0 u1 p r) (aro y u0 u1 q s) (aro x u4 u5 p r) (aro y u4 u5 q s) (aro x u2 u3 p r) (aro y u2 u3 q s)
    else addD d 2 (aro x u6 u7 p r) (aro y u6 u7 q s) (aro x u2 u3 p r) (aro y u2 u3 q s) (aro x u4 u5 p r) (aro y u4 u5 q s)
/-! floor division and its remainder, for a divisor above 0 -/
theorem i64_lo (x : Int64) : -9223372036854775808 ≤ x.toInt := Int64.le_toInt x
theorem i64_hi (x : Int64) : x.toInt < 9223372036854775808 := Int64.toInt_lt x
theorem i64_bm {z : Int} (h1 : -9223372036854775808 ≤ z) (h2 : z < 9223372036854775808) : z.bmod (2 ^ 64) = z := by
  rw [Int.bmod_eq_of_le] <;> omega
theorem x64_pos (z : Int64) : (0 ≤ z) ↔ 0 ≤ z.toInt := by
  rw [Int64.le_iff_toInt_le]
  rfl
theorem x64_msb (z : Int64) : z.toBitVec.msb = decide (z.toInt < 0) := BitVec.msb_eq_toInt
theorem x64_sign {x y : Int64} (hy : 0 < y.toInt) : (0 ≤ x ^^^ y) ↔ 0 ≤ x.toInt := by
  rw [x64_pos]
  have h1 := x64_msb (x ^^^ y)
  have h2 : (x ^^^ y).toBitVec.msb = (x.toBitVec.msb ^^ y.toBitVec.msb) := by rw [Int64.toBitVec_xor, BitVec.msb_xor]
  rw [h2, x64_msb x, x64_msb y] at h1
  have h3 : decide (y.toInt < 0) = false := decide_eq_false (by omega)
  rw [h3, Bool.xor_false] at h1
  constructor
  · intro h
    rcases Int.lt_or_le x.toInt 0 with q | q
    · rw [decide_eq_true q] at h1
      have := of_decide_eq_true h1.symm
      omega
    · exact q
  · intro h
    rw [decide_eq_false (show ¬ x.toInt < 0 by omega)] at h1
    have := of_decide_eq_false h1.symm
    omega
theorem dv_i {x y : Int64} (hy : 0 < y.toInt) : (x / y).toInt = x.toInt.tdiv y.toInt := by
  rw [Int64.toInt_div]
  have h1 := i64_lo x
  have h2 := i64_hi x
  have h3 : (x.toInt.tdiv y.toInt).natAbs ≤ x.toInt.natAbs := by
    rw [Int.natAbs_tdiv]
    exact Nat.div_le_self _ _
  rcases Int.lt_or_le x.toInt 0 with q | q
  · have h4 : x.toInt.tdiv y.toInt ≤ 0 := by
      have := Int.tdiv_nonneg (a := -x.toInt) (b := y.toInt) (by omega) (by omega)
      rw [Int.neg_tdiv] at this
      omega
    apply i64_bm <;> omega
  · have h4 : 0 ≤ x.toInt.tdiv y.toInt := Int.tdiv_nonneg q (by omega)
    apply i64_bm <;> omega
theorem td_i {X Y : Int} (hY : 0 < Y) : X.tdiv Y = X / Y + (if 0 ≤ X ∨ Y ∣ X then 0 else 1) := by
  rw [Int.tdiv_eq_ediv, Int.sign_eq_one_of_pos hY]
theorem rm_b {x y : Int64} (hy : 0 < y.toInt) : (x / y * y).toInt = x.toInt.tdiv y.toInt * y.toInt := by
  rw [Int64.toInt_mul, dv_i hy]
  have h1 := i64_lo x
  have h2 := i64_hi x
  have h3 := Int.mul_tdiv_add_tmod x.toInt y.toInt
  have h4 : (x.toInt.tmod y.toInt).natAbs ≤ x.toInt.natAbs := by
    rw [Int.natAbs_tmod]
    exact Nat.mod_le _ _
  rw [Int.mul_comm] at h3
  rcases Int.lt_or_le x.toInt 0 with q | q
  · have h5 : x.toInt.tmod y.toInt ≤ 0 := by
      have := Int.tmod_nonneg (a := -x.toInt) y.toInt (by omega)
      rw [Int.neg_tmod] at this
      omega
    apply i64_bm <;> omega
  · have h5 := Int.tmod_nonneg (a := x.toInt) y.toInt q
    apply i64_bm <;> omega
theorem eq_i {x y : Int64} : x = y ↔ x.toInt = y.toInt := ⟨fun h => by rw [h], fun h => Int64.toInt_inj.mp h⟩
theorem fdv_i {x y : Int64} (hy : 0 < y.toInt) : (fdv x y).toInt = x.toInt / y.toInt := by
  have ht := td_i (X := x.toInt) hy
  have h1 := i64_lo x
  have h2 := i64_hi x
  unfold fdv
  split
  · rename_i h
    rw [dv_i hy, ht, if_pos (Or.inl ((x64_sign hy).mp h))]
    omega
  · rename_i h
    have hx : ¬ 0 ≤ x.toInt := fun q => h ((x64_sign hy).mpr q)
    split
    · rename_i h5
      have h6 := eq_i.mp h5
      rw [rm_b hy] at h6
      have h7 : y.toInt ∣ x.toInt := ⟨x.toInt.tdiv y.toInt, by rw [Int.mul_comm]; exact h6.symm⟩
      rw [dv_i hy, ht, if_pos (Or.inr h7)]
      omega
    · rename_i h5
      have h7 : ¬ y.toInt ∣ x.toInt := fun q => h5 (eq_i.mpr (by rw [rm_b hy]; exact Int.tdiv_mul_cancel q))
      have h8 : (x / y).toInt = x.toInt / y.toInt + 1 := by
        rw [dv_i hy, ht, if_neg (by rintro (q | q); exact hx q; exact h7 q)]
      have h9 : x.toInt / y.toInt < 0 := Int.ediv_neg_of_neg_of_pos (by omega) hy
      have h10 := i64_lo (x / y)
      have h11 : -9223372036854775808 ≤ x.toInt / y.toInt := Int.le_trans h1 (by
        have := Int.le_ediv_of_mul_le (a := x.toInt) (b := x.toInt) hy (by
          have : x.toInt * y.toInt ≤ x.toInt * 1 := Int.mul_le_mul_of_nonpos_left (by omega) (by omega)
          omega)
        exact this)
      rw [Int64.toInt_sub, h8]
      show (x.toInt / y.toInt + 1 - 1).bmod (2 ^ 64) = _
      rw [Int.add_sub_cancel]
      exact i64_bm h11 (by omega)
theorem fmd_i {x y : Int64} (hy : 0 < y.toInt) : (fmd x y).toInt = x.toInt % y.toInt := by
  have ht := td_i (X := x.toInt) hy
  have h1 := i64_lo x
  have h2 := i64_hi x
  have h3 := i64_hi y
  have hm0 := Int.emod_nonneg x.toInt (show y.toInt ≠ 0 by omega)
  have hm1 := Int.emod_lt_of_pos x.toInt hy
  have hme := Int.emod_add_mul_ediv x.toInt y.toInt
  have hr : (x - x / y * y).toInt = x.toInt - x.toInt.tdiv y.toInt * y.toInt := by
    rw [Int64.toInt_sub, rm_b hy]
    have h5 := Int.mul_tdiv_add_tmod x.toInt y.toInt
    rw [Int.mul_comm] at h5
    have h6 : (x.toInt.tmod y.toInt).natAbs ≤ x.toInt.natAbs := by
      rw [Int.natAbs_tmod]
      exact Nat.mod_le _ _
    have h7 : (x.toInt.tmod y.toInt).natAbs < y.toInt.natAbs := by
      rw [Int.natAbs_tmod]
      exact Nat.mod_lt _ (by omega)
    apply i64_bm <;> omega
  have hc : y.toInt * (x.toInt / y.toInt) = x.toInt / y.toInt * y.toInt := Int.mul_comm _ _
  unfold fmd
  split
  · rename_i h
    rw [hr, ht, if_pos (Or.inl ((x64_sign hy).mp h)), Int.add_zero]
    omega
  · rename_i h
    have hx : ¬ 0 ≤ x.toInt := fun q => h ((x64_sign hy).mpr q)
    split
    · rename_i h5
      have h6 := eq_i.mp h5
      rw [hr] at h6
      have h7 : y.toInt ∣ x.toInt := ⟨x.toInt.tdiv y.toInt, by rw [Int.mul_comm]; have : (0 : Int64).toInt = 0 := rfl; omega⟩
      rw [h5, Int.emod_eq_zero_of_dvd h7]
      rfl
    · rename_i h5
      have h7 : ¬ y.toInt ∣ x.toInt := fun q => h5 (eq_i.mpr (by
        rw [hr, Int.tdiv_mul_cancel q]
        show _ = 0
        omega))
      rw [Int64.toInt_add, hr, ht, if_neg (by rintro (q | q); exact hx q; exact h7 q), Int.add_mul]
      have h8 : x.toInt - (x.toInt / y.toInt * y.toInt + 1 * y.toInt) + y.toInt = x.toInt % y.toInt := by omega
      rw [h8]
      exact i64_bm (by omega) (by omega)
theorem fmd4 (k : Int64) : fmd k 4 = 0 ∨ fmd k 4 = 1 ∨ fmd k 4 = 2 ∨ fmd k 4 = 3 := by
  have h := fmd_i (x := k) (y := 4) (by decide)
  have h4 : (4 : Int64).toInt = 4 := rfl
  rw [h4] at h
  have h0 : (0 : Int64).toInt = 0 := rfl
  have h1 : (1 : Int64).toInt = 1 := rfl
  have h2 : (2 : Int64).toInt = 2 := rfl
  have h3 : (3 : Int64).toInt = 3 := rfl
  rw [eq_i, eq_i, eq_i, eq_i, h0, h1, h2, h3]
  omega
end
section
set_option maxHeartbeats 4000000 in
set_option maxRecDepth 100000 in
/-- Math.abs -/
theorem c_abs (l : Launch) (D : va_G) (cI cB cJ : ClassId) (qQ : Nat) (x : Int64)  : ct l D cl [(cI, .int), (cB, .byte), (cJ, .long)] (amb qQ) y_Math_abs w_Math_abs 0 0 (0) (0) [.long x] [] (fun _ : Unit => True) (fun _ : Unit => some (.long (if 0 ≤ x then x else -x))) (fun _ : Unit => []) := by
  refine ct_ofW (cc := b_Math_abs) (maxL := 2) (ret := (some .long)) (by decide) rfl (Nat.le_of_ble_eq_true rfl) ?_
  intro p e R s m args below meth c A Q ls hx hb hr hml hts hown hlocks hname hRf hRc hRs hRl hQ hK hP hD hS hA hM hl
  have hl : lv_has ls 2 [(0, .long x)] := hl
  refine lv_lload_n hx hb d_Math_abs_0 rfl (lv_at hl 0 rfl) ?_
  refine lv_lconst (v := 0) hx hb d_Math_abs_1 (by decide) ?_
  refine W.lcmp hx hb d_Math_abs_2 ?_
  refine lc_ge (tgt := 11) hx hb d_Math_abs_3 (by decide) (fun c_1 => ?_) (fun c_1 => ?_)
  · skip
    refine lv_lload_n hx hb d_Math_abs_11 rfl (lv_at hl 0 rfl) ?_
    exact ct_retl hQ hx hb hr hlocks hP hD hS () [] [] (by simp [c_1]) (trivial) (rfl) rfl rfl (by omega) (by omega) d_Math_abs_12
  · skip
    refine lv_lload_n hx hb d_Math_abs_6 rfl (lv_at hl 0 rfl) ?_
    refine lv_lneg hx hb d_Math_abs_7 ?_
    refine lv_goto (tgt := 12) hx hb d_Math_abs_8 (by decide) ?_
    exact ct_retl hQ hx hb hr hlocks hP hD hS () [] [] (by simp [c_1]) (trivial) (rfl) rfl rfl (by omega) (by omega) d_Math_abs_12
set_option maxHeartbeats 4000000 in
set_option maxRecDepth 100000 in
/-- Math.floorDiv -/
theorem c_floorDiv (l : Launch) (D : va_G) (cI cB cJ : ClassId) (qQ : Nat) (x : Int64) (y : Int64) (hy : ¬ y = 0) : ct l D cl [(cI, .int), (cB, .byte), (cJ, .long)] (amb qQ) y_Math_floorDiv w_Math_floorDiv 0 0 (0) (0) [.long x, .long y] [] (fun _ : Unit => True) (fun _ : Unit => some (.long (fdv x y))) (fun _ : Unit => []) := by
  refine ct_ofW (cc := b_Math_floorDiv) (maxL := 6) (ret := (some .long)) (by decide) rfl (Nat.le_of_ble_eq_true rfl) ?_
  intro p e R s m args below meth c A Q ls hx hb hr hml hts hown hlocks hname hRf hRc hRs hRl hQ hK hP hD hS hA hM hl
  have hl : lv_has ls 6 [(0, .long x), (2, .long y)] := hl
  refine lv_lload_n hx hb d_Math_floorDiv_0 rfl (lv_at hl 0 rfl) ?_
  refine lv_lload_n hx hb d_Math_floorDiv_1 rfl (lv_at hl 1 rfl) ?_
  refine lv_ldiv hx hb d_Math_floorDiv_2 (hy) ?_
  refine lv_lstore (lv' := [(4, .long (x / y)), (0, .long x), (2, .long y)]) hx hb d_Math_floorDiv_3 hl (by decide) rfl (fun ls hl => ?_)
  refine lv_lload_n hx hb d_Math_floorDiv_5 rfl (lv_at hl 1 rfl) ?_
  refine lv_lload_n hx hb d_Math_floorDiv_6 rfl (lv_at hl 2 rfl) ?_
  refine lv_lxor hx hb d_Math_floorDiv_7 ?_
  refine lv_lconst (v := 0) hx hb d_Math_floorDiv_8 (by decide) ?_
  refine W.lcmp hx hb d_Math_floorDiv_9 ?_
  refine lc_ge (tgt := 27) hx hb d_Math_floorDiv_10 (by decide) (fun c_1 => ?_) (fun c_1 => ?_)
  · skip
    refine lv_lload hx hb d_Math_floorDiv_27 (lv_at hl 0 rfl) ?_
    exact ct_retl hQ hx hb hr hlocks hP hD hS () [] [] (by simp [fdv, c_1]) (trivial) (rfl) rfl rfl (by omega) (by omega) d_Math_floorDiv_29
  · skip
    refine lv_lload hx hb d_Math_floorDiv_13 (lv_at hl 0 rfl) ?_
    refine lv_lload_n hx hb d_Math_floorDiv_15 rfl (lv_at hl 2 rfl) ?_
    refine lv_lmul hx hb d_Math_floorDiv_16 ?_
    refine lv_lload_n hx hb d_Math_floorDiv_17 rfl (lv_at hl 1 rfl) ?_
    refine W.lcmp hx hb d_Math_floorDiv_18 ?_
    refine lc_eq (tgt := 27) hx hb d_Math_floorDiv_19 (by decide) (fun c_2 => ?_) (fun c_2 => ?_)
    · skip
      refine lv_lload hx hb d_Math_floorDiv_27 (lv_at hl 0 rfl) ?_
      exact ct_retl hQ hx hb hr hlocks hP hD hS () [] [] (by simp [fdv, c_1, c_2]) (trivial) (rfl) rfl rfl (by omega) (by omega) d_Math_floorDiv_29
    · skip
      refine lv_lload hx hb d_Math_floorDiv_22 (lv_at hl 0 rfl) ?_
      refine lv_lconst (v := 1) hx hb d_Math_floorDiv_24 (by decide) ?_
      refine lv_lsub hx hb d_Math_floorDiv_25 ?_
      exact ct_retl hQ hx hb hr hlocks hP hD hS () [] [] (by simp [fdv, c_1, c_2]) (trivial) (rfl) rfl rfl (by omega) (by omega) d_Math_floorDiv_26
set_option maxHeartbeats 4000000 in
set_option maxRecDepth 100000 in
/-- Math.floorMod -/
theorem c_floorMod (l : Launch) (D : va_G) (cI cB cJ : ClassId) (qQ : Nat) (x : Int64) (y : Int64) (hy : ¬ y = 0) : ct l D cl [(cI, .int), (cB, .byte), (cJ, .long)] (amb qQ) y_Math_floorMod w_Math_floorMod 0 0 (0) (0) [.long x, .long y] [] (fun _ : Unit => True) (fun _ : Unit => some (.long (fmd x y))) (fun _ : Unit => []) := by
  refine ct_ofW (cc := b_Math_floorMod) (maxL := 6) (ret := (some .long)) (by decide) rfl (Nat.le_of_ble_eq_true rfl) ?_
  intro p e R s m args below meth c A Q ls hx hb hr hml hts hown hlocks hname hRf hRc hRs hRl hQ hK hP hD hS hA hM hl
  have hl : lv_has ls 6 [(0, .long x), (2, .long y)] := hl
  refine lv_lload_n hx hb d_Math_floorMod_0 rfl (lv_at hl 0 rfl) ?_
  refine lv_lload_n hx hb d_Math_floorMod_1 rfl (lv_at hl 1 rfl) ?_
  refine lv_lrem hx hb d_Math_floorMod_2 (hy) ?_
  refine lv_lstore (lv' := [(4, .long (x - x / y * y)), (0, .long x), (2, .long y)]) hx hb d_Math_floorMod_3 hl (by decide) rfl (fun ls hl => ?_)
  refine lv_lload_n hx hb d_Math_floorMod_5 rfl (lv_at hl 1 rfl) ?_
  refine lv_lload_n hx hb d_Math_floorMod_6 rfl (lv_at hl 2 rfl) ?_
  refine lv_lxor hx hb d_Math_floorMod_7 ?_
  refine lv_lconst (v := 0) hx hb d_Math_floorMod_8 (by decide) ?_
  refine W.lcmp hx hb d_Math_floorMod_9 ?_
  refine lc_ge (tgt := 25) hx hb d_Math_floorMod_10 (by decide) (fun c_1 => ?_) (fun c_1 => ?_)
  · skip
    refine lv_lload hx hb d_Math_floorMod_25 (lv_at hl 0 rfl) ?_
    exact ct_retl hQ hx hb hr hlocks hP hD hS () [] [] (by simp [fmd, c_1]) (trivial) (rfl) rfl rfl (by omega) (by omega) d_Math_floorMod_27
  · skip
    refine lv_lload hx hb d_Math_floorMod_13 (lv_at hl 0 rfl) ?_
    refine lv_lconst (v := 0) hx hb d_Math_floorMod_15 (by decide) ?_
    refine W.lcmp hx hb d_Math_floorMod_16 ?_
    refine lc_eq (tgt := 25) hx hb d_Math_floorMod_17 (by decide) (fun c_2 => ?_) (fun c_2 => ?_)
    · skip
      refine lv_lload hx hb d_Math_floorMod_25 (lv_at hl 0 rfl) ?_
      exact ct_retl hQ hx hb hr hlocks hP hD hS () [] [] (by simp [fmd, c_1, c_2]) (trivial) (rfl) rfl rfl (by omega) (by omega) d_Math_floorMod_27
    · skip
      refine lv_lload hx hb d_Math_floorMod_20 (lv_at hl 0 rfl) ?_
      refine lv_lload_n hx hb d_Math_floorMod_22 rfl (lv_at hl 2 rfl) ?_
      refine lv_ladd hx hb d_Math_floorMod_23 ?_
      exact ct_retl hQ hx hb hr hlocks hP hD hS () [] [] (by simp [fmd, c_1, c_2]) (trivial) (rfl) rfl rfl (by omega) (by omega) d_Math_floorMod_24
set_option maxHeartbeats 4000000 in
set_option maxRecDepth 100000 in
/-- placeOf -/
theorem c_M_placeOf (l : Launch) (D : va_G) (cI cB cJ : ClassId) (qQ : Nat) (t : Int64)  : ct l D cl [(cI, .int), (cB, .byte), (cJ, .long)] (amb qQ) y_M_placeOf w_M_placeOf 1 25 (0) (0) [.long t] [] (fun _ : Unit => True) (fun _ : Unit => some (.long (plc t))) (fun _ : Unit => []) := by
  refine ct_ofW (cc := b_M_placeOf) (maxL := 2) (ret := (some .long)) (by decide) rfl (Nat.le_of_ble_eq_true rfl) ?_
  intro p e R s m args below meth c A Q ls hx hb hr hml hts hown hlocks hname hRf hRc hRs hRl hQ hK hP hD hS hA hM hl
  have hl : lv_has ls 2 [(0, .long t)] := hl
  refine lv_lload_n hx hb d_M_placeOf_0 rfl (lv_at hl 0 rfl) ?_
  refine lv_ldc2 (v := 5898240) hx hb hown (hts _ (gwc gw_641)) d_M_placeOf_1 ?_
  refine ct_callS (av := [.long t, .long 5898240]) (rest := []) (wr := []) (n := 2) (c_floorMod l D cI cB cJ qQ t 5898240 (by decide)) hx hb hml hown hts (amb_ok qQ) hK hP hD hS hA hM (gi_S gw_648 gw_275 gw_35 gw_276) rfl (by decide +kernel) ⟨by omega, by omega⟩ [] [] rfl rfl rfl rfl (by decide) rfl hl.1 rfl (Nat.le_of_ble_eq_true rfl) d_M_placeOf_4 ⟨by omega, by omega⟩ (fun u_1 H locs hok hP hD hS => ?_)
  have hP : va_P D cl [] H := hP
  have hD : va_D A [] := hD
  refine W.eq (g2 := F0 m 7 ls [.long (fmd t 5898240)]) rfl ?_
  refine lv_ldc2 (v := 45) hx hb hown (hts _ (gwc gw_649)) d_M_placeOf_7 ?_
  refine lv_ladd hx hb d_M_placeOf_10 ?_
  refine lv_ldc2 (v := 90) hx hb hown (hts _ (gwc gw_650)) d_M_placeOf_11 ?_
  refine ct_callS (av := [.long ((fmd t 5898240) + 45), .long 90]) (rest := []) (wr := []) (n := 2) (c_floorDiv l D cI cB cJ qQ ((fmd t 5898240) + 45) 90 (by decide)) hx hb hml hown hts (amb_ok qQ) hK hP hD hS hA hM (gi_S gw_635 gw_290 gw_35 gw_291) rfl (by decide +kernel) ⟨by omega, by omega⟩ [] [] rfl rfl rfl rfl (by decide) rfl hl.1 rfl (Nat.le_of_ble_eq_true rfl) d_M_placeOf_14 ⟨by omega, by omega⟩ (fun u_2 H locs hok hP hD hS => ?_)
  have hP : va_P D cl [] H := hP
  have hD : va_D A [] := hD
  refine W.eq (g2 := F0 m 17 ls [.long (fdv ((fmd t 5898240) + 45) 90)]) rfl ?_
  exact ct_retl hQ hx hb hr hlocks hP hD hS () [] [] (rfl) (trivial) (rfl) rfl rfl (by omega) (by omega) d_M_placeOf_17
set_option maxHeartbeats 4000000 in
set_option maxRecDepth 100000 in
/-- mix -/
theorem c_M_mix (l : Launch) (D : va_G) (cI cB cJ : ClassId) (qQ : Nat) (a_ : Int64) (b_ : Int64) (t : Int64)  : ct l D cl [(cI, .int), (cB, .byte), (cJ, .long)] (amb qQ) y_M_mix w_M_mix 1 25 (0) (0) [.long a_, .long b_, .long t] [] (fun _ : Unit => True) (fun _ : Unit => some (.long (mixL a_ b_ t))) (fun _ : Unit => []) := by
  refine ct_ofW (cc := b_M_mix) (maxL := 6) (ret := (some .long)) (by decide) rfl (Nat.le_of_ble_eq_true rfl) ?_
  intro p e R s m args below meth c A Q ls hx hb hr hml hts hown hlocks hname hRf hRc hRs hRl hQ hK hP hD hS hA hM hl
  have hl : lv_has ls 6 [(0, .long a_), (2, .long b_), (4, .long t)] := hl
  refine lv_lload_n hx hb d_M_mix_0 rfl (lv_at hl 0 rfl) ?_
  refine lv_lload_n hx hb d_M_mix_1 rfl (lv_at hl 1 rfl) ?_
  refine lv_lload_n hx hb d_M_mix_2 rfl (lv_at hl 0 rfl) ?_
  refine lv_lsub hx hb d_M_mix_3 ?_
  refine lv_lload hx hb d_M_mix_4 (lv_at hl 2 rfl) ?_
  refine lv_lmul hx hb d_M_mix_6 ?_
  refine lv_ldc2 (v := 32768) hx hb hown (hts _ (gwc gw_672)) d_M_mix_7 ?_
  refine lv_ladd hx hb d_M_mix_10 ?_
  refine lv_ldc2 (v := 65536) hx hb hown (hts _ (gwc gw_654)) d_M_mix_11 ?_
  refine ct_callS (av := [.long (((b_ - a_) * t) + 32768), .long 65536]) (rest := [.long a_]) (wr := []) (n := 2) (c_floorDiv l D cI cB cJ qQ (((b_ - a_) * t) + 32768) 65536 (by decide)) hx hb hml hown hts (amb_ok qQ) hK hP hD hS hA hM (gi_S gw_635 gw_290 gw_35 gw_291) rfl (by decide +kernel) ⟨by omega, by omega⟩ [] [] rfl rfl rfl rfl (by decide) rfl hl.1 rfl (Nat.le_of_ble_eq_true rfl) d_M_mix_14 ⟨by omega, by omega⟩ (fun u_1 H locs hok hP hD hS => ?_)
  have hP : va_P D cl [] H := hP
  have hD : va_D A [] := hD
  refine W.eq (g2 := F0 m 17 ls [.long (fdv (((b_ - a_) * t) + 32768) 65536), .long a_]) rfl ?_
  refine lv_ladd hx hb d_M_mix_17 ?_
  exact ct_retl hQ hx hb hr hlocks hP hD hS () [] [] (rfl) (trivial) (rfl) rfl rfl (by omega) (by omega) d_M_mix_18
set_option maxHeartbeats 4000000 in
set_option maxRecDepth 100000 in
/-- from -/
theorem c_M_from (l : Launch) (D : va_G) (cI cB cJ : ClassId) (qQ : Nat) (k : Int64) (z : Int64)  : ct l D cl [(cI, .int), (cB, .byte), (cJ, .long)] (amb qQ) y_M_from w_M_from 2 46 (0) (0) [.long k, .long z] [] (fun _ : Unit => True) (fun _ : Unit => some (.long (frm k z))) (fun _ : Unit => []) := by
  refine ct_ofW (cc := b_M_from) (maxL := 4) (ret := (some .long)) (by decide) rfl (Nat.le_of_ble_eq_true rfl) ?_
  intro p e R s m args below meth c A Q ls hx hb hr hml hts hown hlocks hname hRf hRc hRs hRl hQ hK hP hD hS hA hM hl
  have hl : lv_has ls 4 [(0, .long k), (2, .long z)] := hl
  refine lv_lload_n hx hb d_M_from_0 rfl (lv_at hl 0 rfl) ?_
  refine lv_lload_n hx hb d_M_from_1 rfl (lv_at hl 1 rfl) ?_
  refine lv_ldc2 (v := 5898240) hx hb hown (hts _ (gwc gw_641)) d_M_from_2 ?_
  refine ct_callS (av := [.long z, .long 5898240]) (rest := [.long k]) (wr := []) (n := 2) (c_floorDiv l D cI cB cJ qQ z 5898240 (by decide)) hx hb hml hown hts (amb_ok qQ) hK hP hD hS hA hM (gi_S gw_635 gw_290 gw_35 gw_291) rfl (by decide +kernel) ⟨by omega, by omega⟩ [] [] rfl rfl rfl rfl (by decide) rfl hl.1 rfl (Nat.le_of_ble_eq_true rfl) d_M_from_5 ⟨by omega, by omega⟩ (fun u_1 H locs hok hP hD hS => ?_)
  have hP : va_P D cl [] H := hP
  have hD : va_D A [] := hD
  refine W.eq (g2 := F0 m 8 ls [.long (fdv z 5898240), .long k]) rfl ?_
  refine W.lcmp hx hb d_M_from_8 ?_
  refine lc_ne (tgt := 19) hx hb d_M_from_9 (by decide) (fun c_2 => ?_) (fun c_2 => ?_)
  · skip
    refine lv_lconst (v := 0) hx hb d_M_from_19 (by decide) ?_
    exact ct_retl hQ hx hb hr hlocks hP hD hS () [] [] (by simp [frm, c_2]) (trivial) (rfl) rfl rfl (by omega) (by omega) d_M_from_20
  · skip
    refine lv_lload_n hx hb d_M_from_12 rfl (lv_at hl 1 rfl) ?_
    refine ct_callS (av := [.long z]) (rest := []) (wr := []) (n := 1) (c_M_placeOf l D cI cB cJ qQ z ) hx hb hml hown hts (amb_ok qQ) hK hP hD hS hA hM (gi_S gw_645 gw_646 gw_33 gw_647) rfl (by decide +kernel) ⟨by omega, by omega⟩ [] [] rfl rfl rfl rfl (by decide) rfl hl.1 rfl (Nat.le_of_ble_eq_true rfl) d_M_from_13 ⟨by omega, by omega⟩ (fun u_3 H locs hok hP hD hS => ?_)
    have hP : va_P D cl [] H := hP
    have hD : va_D A [] := hD
    refine W.eq (g2 := F0 m 16 ls [.long (plc z)]) rfl ?_
    refine lv_goto (tgt := 20) hx hb d_M_from_16 (by decide) ?_
    exact ct_retl hQ hx hb hr hlocks hP hD hS () [] [] (by simp [frm, c_2]) (trivial) (rfl) rfl rfl (by omega) (by omega) d_M_from_20
set_option maxHeartbeats 4000000 in
set_option maxRecDepth 100000 in
/-- to -/
theorem c_M_to (l : Launch) (D : va_G) (cI cB cJ : ClassId) (qQ : Nat) (k : Int64) (z : Int64)  : ct l D cl [(cI, .int), (cB, .byte), (cJ, .long)] (amb qQ) y_M_to w_M_to 2 46 (0) (0) [.long k, .long z] [] (fun _ : Unit => True) (fun _ : Unit => some (.long (tow k z))) (fun _ : Unit => []) := by
  refine ct_ofW (cc := b_M_to) (maxL := 4) (ret := (some .long)) (by decide) rfl (Nat.le_of_ble_eq_true rfl) ?_
  intro p e R s m args below meth c A Q ls hx hb hr hml hts hown hlocks hname hRf hRc hRs hRl hQ hK hP hD hS hA hM hl
  have hl : lv_has ls 4 [(0, .long k), (2, .long z)] := hl
  refine lv_lload_n hx hb d_M_to_0 rfl (lv_at hl 0 rfl) ?_
  refine lv_lload_n hx hb d_M_to_1 rfl (lv_at hl 1 rfl) ?_
  refine lv_ldc2 (v := 5898240) hx hb hown (hts _ (gwc gw_641)) d_M_to_2 ?_
  refine ct_callS (av := [.long z, .long 5898240]) (rest := [.long k]) (wr := []) (n := 2) (c_floorDiv l D cI cB cJ qQ z 5898240 (by decide)) hx hb hml hown hts (amb_ok qQ) hK hP hD hS hA hM (gi_S gw_635 gw_290 gw_35 gw_291) rfl (by decide +kernel) ⟨by omega, by omega⟩ [] [] rfl rfl rfl rfl (by decide) rfl hl.1 rfl (Nat.le_of_ble_eq_true rfl) d_M_to_5 ⟨by omega, by omega⟩ (fun u_1 H locs hok hP hD hS => ?_)
  have hP : va_P D cl [] H := hP
  have hD : va_D A [] := hD
  refine W.eq (g2 := F0 m 8 ls [.long (fdv z 5898240), .long k]) rfl ?_
  refine W.lcmp hx hb d_M_to_8 ?_
  refine lc_ne (tgt := 19) hx hb d_M_to_9 (by decide) (fun c_2 => ?_) (fun c_2 => ?_)
  · skip
    refine lv_ldc2 (v := 65536) hx hb hown (hts _ (gwc gw_654)) d_M_to_19 ?_
    exact ct_retl hQ hx hb hr hlocks hP hD hS () [] [] (by simp [tow, c_2]) (trivial) (rfl) rfl rfl (by omega) (by omega) d_M_to_22
  · skip
    refine lv_lload_n hx hb d_M_to_12 rfl (lv_at hl 1 rfl) ?_
    refine ct_callS (av := [.long z]) (rest := []) (wr := []) (n := 1) (c_M_placeOf l D cI cB cJ qQ z ) hx hb hml hown hts (amb_ok qQ) hK hP hD hS hA hM (gi_S gw_645 gw_646 gw_33 gw_647) rfl (by decide +kernel) ⟨by omega, by omega⟩ [] [] rfl rfl rfl rfl (by decide) rfl hl.1 rfl (Nat.le_of_ble_eq_true rfl) d_M_to_13 ⟨by omega, by omega⟩ (fun u_3 H locs hok hP hD hS => ?_)
    have hP : va_P D cl [] H := hP
    have hD : va_D A [] := hD
    refine W.eq (g2 := F0 m 16 ls [.long (plc z)]) rfl ?_
    refine lv_goto (tgt := 22) hx hb d_M_to_16 (by decide) ?_
    exact ct_retl hQ hx hb hr hlocks hP hD hS () [] [] (by simp [tow, c_2]) (trivial) (rfl) rfl rfl (by omega) (by omega) d_M_to_22
set_option maxHeartbeats 4000000 in
set_option maxRecDepth 100000 in
/-- quarter -/
theorem c_M_quarter (l : Launch) (D : va_G) (cI cB cJ : ClassId) (qQ : Nat) (hm : Nat) (a : Nat) (b : Nat) (qa : Nat) (qu : Nat) (qb : Nat) (qh : Nat) (qm : Nat) (u0 : Int64) (u1 : Int64) (u2 : Int64) (u3 : Int64) (u4 : Int64) (u5 : Int64) (u6 : Int64) (u7 : Int64) (k : Int64)  : ct l D cl [(cI, .int), (cB, .byte), (cJ, .long)] (amb qQ) y_M_quarter w_M_quarter 1 25 (0) (0) [.ref hm, .long k] [(hm, .inr (1, [.ref a, .ref b, .ref qa, .ref qu, .ref qb, .ref qh, .ref qm])), (qu, .inl (cJ, 8, .inr (.inl (f8 u0 u1 u2 u3 u4 u5 u6 u7))))] (fun u_ : Int64 × Int64 × Int64 × Int64 × Int64 × Int64 × Int64 × Int64 => match u_ with | (u0', u1', u2', u3', u4', u5', u6', u7') => (u0', u1', u2', u3', u4', u5', u6', u7') = qv8 (fmd k 4)) (fun u_ : Int64 × Int64 × Int64 × Int64 × Int64 × Int64 × Int64 × Int64 => match u_ with | (u0', u1', u2', u3', u4', u5', u6', u7') => none) (fun u_ : Int64 × Int64 × Int64 × Int64 × Int64 × Int64 × Int64 × Int64 => match u_ with | (u0', u1', u2', u3', u4', u5', u6', u7') => [(hm, .inr (1, [.ref a, .ref b, .ref qa, .ref qu, .ref qb, .ref qh, .ref qm])), (qu, .inl (cJ, 8, .inr (.inl (f8 u0' u1' u2' u3' u4' u5' u6' u7'))))]) := by
  refine ct_ofW (cc := b_M_quarter) (maxL := 7) (ret := none) (by decide) rfl (Nat.le_of_ble_eq_true rfl) ?_
  intro p e R s m args below meth c A Q ls hx hb hr hml hts hown hlocks hname hRf hRc hRs hRl hQ hK hP hD hS hA hM hl
  have hl : lv_has ls 7 [(0, .ref hm), (1, .long k)] := hl
  rcases fmd4 k with h_ | h_ | h_ | h_
  · skip
    refine lv_aload_n hx hb d_M_quarter_0 rfl (lv_at hl 0 rfl) ?_
    refine va_get (D := D) (ci := 1) (v := .ref qu) (C := R_M) (T := T_M) (N := 7) hx hb hts (ui_M _) hown hK hP 0 rfl rfl 3 (by decide) (hts _ (gwc gw_531)) (fun _ h9 => h9) rfl d_M_quarter_1 ?_
    refine lv_iconst (v := 0) hx hb d_M_quarter_4 (by decide) ?_
    refine lv_ldc2 (v := 65536) hx hb hown (hts _ (gwc gw_654)) d_M_quarter_5 ?_
    refine st_l hx hb hK hP hD hS 1 2 rfl rfl 0 (by omega) (by omega) d_M_quarter_8 (fun H locs hP hD hS => ?_)
    have hP : va_P D cl [(hm, .inr (1, [.ref a, .ref b, .ref qa, .ref qu, .ref qb, .ref qh, .ref qm])), (qu, .inl (cJ, 8, .inr (.inl (f8 65536 u1 u2 u3 u4 u5 u6 u7))))] H := by rw [← f8_0]; exact hP
    have hD : va_D A [(hm, .inr (1, [.ref a, .ref b, .ref qa, .ref qu, .ref qb, .ref qh, .ref qm])), (qu, .inl (cJ, 8, .inr (.inl (f8 65536 u1 u2 u3 u4 u5 u6 u7))))] := by rw [← f8_0]; exact hD
    refine lv_aload_n hx hb d_M_quarter_9 rfl (lv_at hl 0 rfl) ?_
    refine va_get (D := D) (ci := 1) (v := .ref qu) (C := R_M) (T := T_M) (N := 7) hx hb hts (ui_M _) hown hK hP 0 rfl rfl 3 (by decide) (hts _ (gwc gw_531)) (fun _ h9 => h9) rfl d_M_quarter_10 ?_
    refine lv_iconst (v := 1) hx hb d_M_quarter_13 (by decide) ?_
    refine lv_lconst (v := 0) hx hb d_M_quarter_14 (by decide) ?_
    refine st_l hx hb hK hP hD hS 1 2 rfl rfl 1 (by omega) (by omega) d_M_quarter_15 (fun H locs hP hD hS => ?_)
    have hP : va_P D cl [(hm, .inr (1, [.ref a, .ref b, .ref qa, .ref qu, .ref qb, .ref qh, .ref qm])), (qu, .inl (cJ, 8, .inr (.inl (f8 65536 0 u2 u3 u4 u5 u6 u7))))] H := by rw [← f8_1]; exact hP
    have hD : va_D A [(hm, .inr (1, [.ref a, .ref b, .ref qa, .ref qu, .ref qb, .ref qh, .ref qm])), (qu, .inl (cJ, 8, .inr (.inl (f8 65536 0 u2 u3 u4 u5 u6 u7))))] := by rw [← f8_1]; exact hD
    refine lv_aload_n hx hb d_M_quarter_16 rfl (lv_at hl 0 rfl) ?_
    refine va_get (D := D) (ci := 1) (v := .ref qu) (C := R_M) (T := T_M) (N := 7) hx hb hts (ui_M _) hown hK hP 0 rfl rfl 3 (by decide) (hts _ (gwc gw_531)) (fun _ h9 => h9) rfl d_M_quarter_17 ?_
    refine lv_iconst (v := 2) hx hb d_M_quarter_20 (by decide) ?_
    refine lv_ldc2 (v := 65536) hx hb hown (hts _ (gwc gw_654)) d_M_quarter_21 ?_
    refine st_l hx hb hK hP hD hS 1 2 rfl rfl 2 (by omega) (by omega) d_M_quarter_24 (fun H locs hP hD hS => ?_)
    have hP : va_P D cl [(hm, .inr (1, [.ref a, .ref b, .ref qa, .ref qu, .ref qb, .ref qh, .ref qm])), (qu, .inl (cJ, 8, .inr (.inl (f8 65536 0 65536 u3 u4 u5 u6 u7))))] H := by rw [← f8_2]; exact hP
    have hD : va_D A [(hm, .inr (1, [.ref a, .ref b, .ref qa, .ref qu, .ref qb, .ref qh, .ref qm])), (qu, .inl (cJ, 8, .inr (.inl (f8 65536 0 65536 u3 u4 u5 u6 u7))))] := by rw [← f8_2]; exact hD
    refine lv_aload_n hx hb d_M_quarter_25 rfl (lv_at hl 0 rfl) ?_
    refine va_get (D := D) (ci := 1) (v := .ref qu) (C := R_M) (T := T_M) (N := 7) hx hb hts (ui_M _) hown hK hP 0 rfl rfl 3 (by decide) (hts _ (gwc gw_531)) (fun _ h9 => h9) rfl d_M_quarter_26 ?_
    refine lv_iconst (v := 3) hx hb d_M_quarter_29 (by decide) ?_
    refine lv_ldc2 (v := 36195) hx hb hown (hts _ (gwc gw_659)) d_M_quarter_30 ?_
    refine st_l hx hb hK hP hD hS 1 2 rfl rfl 3 (by omega) (by omega) d_M_quarter_33 (fun H locs hP hD hS => ?_)
    have hP : va_P D cl [(hm, .inr (1, [.ref a, .ref b, .ref qa, .ref qu, .ref qb, .ref qh, .ref qm])), (qu, .inl (cJ, 8, .inr (.inl (f8 65536 0 65536 36195 u4 u5 u6 u7))))] H := by rw [← f8_3]; exact hP
    have hD : va_D A [(hm, .inr (1, [.ref a, .ref b, .ref qa, .ref qu, .ref qb, .ref qh, .ref qm])), (qu, .inl (cJ, 8, .inr (.inl (f8 65536 0 65536 36195 u4 u5 u6 u7))))] := by rw [← f8_3]; exact hD
    refine lv_aload_n hx hb d_M_quarter_34 rfl (lv_at hl 0 rfl) ?_
    refine va_get (D := D) (ci := 1) (v := .ref qu) (C := R_M) (T := T_M) (N := 7) hx hb hts (ui_M _) hown hK hP 0 rfl rfl 3 (by decide) (hts _ (gwc gw_531)) (fun _ h9 => h9) rfl d_M_quarter_35 ?_
    refine lv_iconst (v := 4) hx hb d_M_quarter_38 (by decide) ?_
    refine lv_ldc2 (v := 36195) hx hb hown (hts _ (gwc gw_659)) d_M_quarter_39 ?_
    refine st_l hx hb hK hP hD hS 1 2 rfl rfl 4 (by omega) (by omega) d_M_quarter_42 (fun H locs hP hD hS => ?_)
    have hP : va_P D cl [(hm, .inr (1, [.ref a, .ref b, .ref qa, .ref qu, .ref qb, .ref qh, .ref qm])), (qu, .inl (cJ, 8, .inr (.inl (f8 65536 0 65536 36195 36195 u5 u6 u7))))] H := by rw [← f8_4]; exact hP
    have hD : va_D A [(hm, .inr (1, [.ref a, .ref b, .ref qa, .ref qu, .ref qb, .ref qh, .ref qm])), (qu, .inl (cJ, 8, .inr (.inl (f8 65536 0 65536 36195 36195 u5 u6 u7))))] := by rw [← f8_4]; exact hD
    refine lv_aload_n hx hb d_M_quarter_43 rfl (lv_at hl 0 rfl) ?_
    refine va_get (D := D) (ci := 1) (v := .ref qu) (C := R_M) (T := T_M) (N := 7) hx hb hts (ui_M _) hown hK hP 0 rfl rfl 3 (by decide) (hts _ (gwc gw_531)) (fun _ h9 => h9) rfl d_M_quarter_44 ?_
    refine lv_iconst (v := 5) hx hb d_M_quarter_47 (by decide) ?_
    refine lv_ldc2 (v := 65536) hx hb hown (hts _ (gwc gw_654)) d_M_quarter_48 ?_
    refine st_l hx hb hK hP hD hS 1 2 rfl rfl 5 (by omega) (by omega) d_M_quarter_51 (fun H locs hP hD hS => ?_)
    have hP : va_P D cl [(hm, .inr (1, [.ref a, .ref b, .ref qa, .ref qu, .ref qb, .ref qh, .ref qm])), (qu, .inl (cJ, 8, .inr (.inl (f8 65536 0 65536 36195 36195 65536 u6 u7))))] H := by rw [← f8_5]; exact hP
    have hD : va_D A [(hm, .inr (1, [.ref a, .ref b, .ref qa, .ref qu, .ref qb, .ref qh, .ref qm])), (qu, .inl (cJ, 8, .inr (.inl (f8 65536 0 65536 36195 36195 65536 u6 u7))))] := by rw [← f8_5]; exact hD
    refine lv_aload_n hx hb d_M_quarter_52 rfl (lv_at hl 0 rfl) ?_
    refine va_get (D := D) (ci := 1) (v := .ref qu) (C := R_M) (T := T_M) (N := 7) hx hb hts (ui_M _) hown hK hP 0 rfl rfl 3 (by decide) (hts _ (gwc gw_531)) (fun _ h9 => h9) rfl d_M_quarter_53 ?_
    refine lv_bipush (v := 6) hx hb d_M_quarter_56 (by decide) ?_
    refine lv_lconst (v := 0) hx hb d_M_quarter_58 (by decide) ?_
    refine st_l hx hb hK hP hD hS 1 2 rfl rfl 6 (by omega) (by omega) d_M_quarter_59 (fun H locs hP hD hS => ?_)
    have hP : va_P D cl [(hm, .inr (1, [.ref a, .ref b, .ref qa, .ref qu, .ref qb, .ref qh, .ref qm])), (qu, .inl (cJ, 8, .inr (.inl (f8 65536 0 65536 36195 36195 65536 0 u7))))] H := by rw [← f8_6]; exact hP
    have hD : va_D A [(hm, .inr (1, [.ref a, .ref b, .ref qa, .ref qu, .ref qb, .ref qh, .ref qm])), (qu, .inl (cJ, 8, .inr (.inl (f8 65536 0 65536 36195 36195 65536 0 u7))))] := by rw [← f8_6]; exact hD
    refine lv_aload_n hx hb d_M_quarter_60 rfl (lv_at hl 0 rfl) ?_
    refine va_get (D := D) (ci := 1) (v := .ref qu) (C := R_M) (T := T_M) (N := 7) hx hb hts (ui_M _) hown hK hP 0 rfl rfl 3 (by decide) (hts _ (gwc gw_531)) (fun _ h9 => h9) rfl d_M_quarter_61 ?_
    refine lv_bipush (v := 7) hx hb d_M_quarter_64 (by decide) ?_
    refine lv_ldc2 (v := 65536) hx hb hown (hts _ (gwc gw_654)) d_M_quarter_66 ?_
    refine st_l hx hb hK hP hD hS 1 2 rfl rfl 7 (by omega) (by omega) d_M_quarter_69 (fun H locs hP hD hS => ?_)
    have hP : va_P D cl [(hm, .inr (1, [.ref a, .ref b, .ref qa, .ref qu, .ref qb, .ref qh, .ref qm])), (qu, .inl (cJ, 8, .inr (.inl (f8 65536 0 65536 36195 36195 65536 0 65536))))] H := by rw [← f8_7]; exact hP
    have hD : va_D A [(hm, .inr (1, [.ref a, .ref b, .ref qa, .ref qu, .ref qb, .ref qh, .ref qm])), (qu, .inl (cJ, 8, .inr (.inl (f8 65536 0 65536 36195 36195 65536 0 65536))))] := by rw [← f8_7]; exact hD
    refine lv_iconst (v := 0) hx hb d_M_quarter_70 (by decide) ?_
    refine lv_istore_n (lv' := [(3, .int 0), (0, .ref hm), (1, .long k)]) hx hb d_M_quarter_71 rfl hl (by decide) rfl (fun ls hl => ?_)
    refine lv_iload_n hx hb d_M_quarter_72 rfl (lv_at hl 0 rfl) ?_
    refine lv_i2l (v := 0) hx hb d_M_quarter_73 (by decide) ?_
    refine lv_lload_n hx hb d_M_quarter_74 rfl (lv_at hl 2 rfl) ?_
    refine lv_ldc2 (v := 4) hx hb hown (hts _ (gwc gw_660)) d_M_quarter_75 ?_
    refine ct_callS (av := [.long k, .long 4]) (rest := [.long 0]) (wr := [(hm, .inr (1, [.ref a, .ref b, .ref qa, .ref qu, .ref qb, .ref qh, .ref qm])), (qu, .inl (cJ, 8, .inr (.inl (f8 65536 0 65536 36195 36195 65536 0 65536))))]) (n := 2) (c_floorMod l D cI cB cJ qQ k 4 (by decide)) hx hb hml hown hts (amb_ok qQ) hK hP hD hS hA hM (gi_S gw_648 gw_275 gw_35 gw_276) rfl (by decide +kernel) ⟨by omega, by omega⟩ [] [0, 1] rfl rfl rfl rfl (by decide) rfl hl.1 rfl (Nat.le_of_ble_eq_true rfl) d_M_quarter_78 ⟨by omega, by omega⟩ (fun u_1 H locs hok hP hD hS => ?_)
    have hP : va_P D cl [(hm, .inr (1, [.ref a, .ref b, .ref qa, .ref qu, .ref qb, .ref qh, .ref qm])), (qu, .inl (cJ, 8, .inr (.inl (f8 65536 0 65536 36195 36195 65536 0 65536))))] H := hP
    have hD : va_D A [(hm, .inr (1, [.ref a, .ref b, .ref qa, .ref qu, .ref qb, .ref qh, .ref qm])), (qu, .inl (cJ, 8, .inr (.inl (f8 65536 0 65536 36195 36195 65536 0 65536))))] := hD
    refine W.eq (g2 := F0 m 81 ls [.long (fmd k 4), .long 0]) rfl ?_
    refine tp_l (0) (h_) ?_
    refine W.lcmp hx hb d_M_quarter_81 ?_
    refine lc_ge (tgt := 144) hx hb d_M_quarter_82 (by decide) (fun c_2 => ?_) (fun c_2 => ?_)
    rotate_left
    · exact absurd c_2 (by decide)
    exact ct_retv hQ hx hb hr hlocks hP hD hS (65536, 0, 65536, 36195, 36195, 65536, 0, 65536) [(hm, .inr (1, [.ref a, .ref b, .ref qa, .ref qu, .ref qb, .ref qh, .ref qm])), (qu, .inl (cJ, 8, .inr (.inl (f8 65536 0 65536 36195 36195 65536 0 65536))))] [0, 1] (rfl) (by rw [h_]; decide) (rfl) rfl rfl (by omega) (by omega) d_M_quarter_144
  · skip
    refine lv_aload_n hx hb d_M_quarter_0 rfl (lv_at hl 0 rfl) ?_
    refine va_get (D := D) (ci := 1) (v := .ref qu) (C := R_M) (T := T_M) (N := 7) hx hb hts (ui_M _) hown hK hP 0 rfl rfl 3 (by decide) (hts _ (gwc gw_531)) (fun _ h9 => h9) rfl d_M_quarter_1 ?_
    refine lv_iconst (v := 0) hx hb d_M_quarter_4 (by decide) ?_
    refine lv_ldc2 (v := 65536) hx hb hown (hts _ (gwc gw_654)) d_M_quarter_5 ?_
    refine st_l hx hb hK hP hD hS 1 2 rfl rfl 0 (by omega) (by omega) d_M_quarter_8 (fun H locs hP hD hS => ?_)
    have hP : va_P D cl [(hm, .inr (1, [.ref a, .ref b, .ref qa, .ref qu, .ref qb, .ref qh, .ref qm])), (qu, .inl (cJ, 8, .inr (.inl (f8 65536 u1 u2 u3 u4 u5 u6 u7))))] H := by rw [← f8_0]; exact hP
    have hD : va_D A [(hm, .inr (1, [.ref a, .ref b, .ref qa, .ref qu, .ref qb, .ref qh, .ref qm])), (qu, .inl (cJ, 8, .inr (.inl (f8 65536 u1 u2 u3 u4 u5 u6 u7))))] := by rw [← f8_0]; exact hD
    refine lv_aload_n hx hb d_M_quarter_9 rfl (lv_at hl 0 rfl) ?_
    refine va_get (D := D) (ci := 1) (v := .ref qu) (C := R_M) (T := T_M) (N := 7) hx hb hts (ui_M _) hown hK hP 0 rfl rfl 3 (by decide) (hts _ (gwc gw_531)) (fun _ h9 => h9) rfl d_M_quarter_10 ?_
    refine lv_iconst (v := 1) hx hb d_M_quarter_13 (by decide) ?_
    refine lv_lconst (v := 0) hx hb d_M_quarter_14 (by decide) ?_
    refine st_l hx hb hK hP hD hS 1 2 rfl rfl 1 (by omega) (by omega) d_M_quarter_15 (fun H locs hP hD hS => ?_)
    have hP : va_P D cl [(hm, .inr (1, [.ref a, .ref b, .ref qa, .ref qu, .ref qb, .ref qh, .ref qm])), (qu, .inl (cJ, 8, .inr (.inl (f8 65536 0 u2 u3 u4 u5 u6 u7))))] H := by rw [← f8_1]; exact hP
    have hD : va_D A [(hm, .inr (1, [.ref a, .ref b, .ref qa, .ref qu, .ref qb, .ref qh, .ref qm])), (qu, .inl (cJ, 8, .inr (.inl (f8 65536 0 u2 u3 u4 u5 u6 u7))))] := by rw [← f8_1]; exact hD
    refine lv_aload_n hx hb d_M_quarter_16 rfl (lv_at hl 0 rfl) ?_
    refine va_get (D := D) (ci := 1) (v := .ref qu) (C := R_M) (T := T_M) (N := 7) hx hb hts (ui_M _) hown hK hP 0 rfl rfl 3 (by decide) (hts _ (gwc gw_531)) (fun _ h9 => h9) rfl d_M_quarter_17 ?_
    refine lv_iconst (v := 2) hx hb d_M_quarter_20 (by decide) ?_
    refine lv_ldc2 (v := 65536) hx hb hown (hts _ (gwc gw_654)) d_M_quarter_21 ?_
    refine st_l hx hb hK hP hD hS 1 2 rfl rfl 2 (by omega) (by omega) d_M_quarter_24 (fun H locs hP hD hS => ?_)
    have hP : va_P D cl [(hm, .inr (1, [.ref a, .ref b, .ref qa, .ref qu, .ref qb, .ref qh, .ref qm])), (qu, .inl (cJ, 8, .inr (.inl (f8 65536 0 65536 u3 u4 u5 u6 u7))))] H := by rw [← f8_2]; exact hP
    have hD : va_D A [(hm, .inr (1, [.ref a, .ref b, .ref qa, .ref qu, .ref qb, .ref qh, .ref qm])), (qu, .inl (cJ, 8, .inr (.inl (f8 65536 0 65536 u3 u4 u5 u6 u7))))] := by rw [← f8_2]; exact hD
    refine lv_aload_n hx hb d_M_quarter_25 rfl (lv_at hl 0 rfl) ?_
    refine va_get (D := D) (ci := 1) (v := .ref qu) (C := R_M) (T := T_M) (N := 7) hx hb hts (ui_M _) hown hK hP 0 rfl rfl 3 (by decide) (hts _ (gwc gw_531)) (fun _ h9 => h9) rfl d_M_quarter_26 ?_
    refine lv_iconst (v := 3) hx hb d_M_quarter_29 (by decide) ?_
    refine lv_ldc2 (v := 36195) hx hb hown (hts _ (gwc gw_659)) d_M_quarter_30 ?_
    refine st_l hx hb hK hP hD hS 1 2 rfl rfl 3 (by omega) (by omega) d_M_quarter_33 (fun H locs hP hD hS => ?_)
    have hP : va_P D cl [(hm, .inr (1, [.ref a, .ref b, .ref qa, .ref qu, .ref qb, .ref qh, .ref qm])), (qu, .inl (cJ, 8, .inr (.inl (f8 65536 0 65536 36195 u4 u5 u6 u7))))] H := by rw [← f8_3]; exact hP
    have hD : va_D A [(hm, .inr (1, [.ref a, .ref b, .ref qa, .ref qu, .ref qb, .ref qh, .ref qm])), (qu, .inl (cJ, 8, .inr (.inl (f8 65536 0 65536 36195 u4 u5 u6 u7))))] := by rw [← f8_3]; exact hD
    refine lv_aload_n hx hb d_M_quarter_34 rfl (lv_at hl 0 rfl) ?_
    refine va_get (D := D) (ci := 1) (v := .ref qu) (C := R_M) (T := T_M) (N := 7) hx hb hts (ui_M _) hown hK hP 0 rfl rfl 3 (by decide) (hts _ (gwc gw_531)) (fun _ h9 => h9) rfl d_M_quarter_35 ?_
    refine lv_iconst (v := 4) hx hb d_M_quarter_38 (by decide) ?_
    refine lv_ldc2 (v := 36195) hx hb hown (hts _ (gwc gw_659)) d_M_quarter_39 ?_
    refine st_l hx hb hK hP hD hS 1 2 rfl rfl 4 (by omega) (by omega) d_M_quarter_42 (fun H locs hP hD hS => ?_)
    have hP : va_P D cl [(hm, .inr (1, [.ref a, .ref b, .ref qa, .ref qu, .ref qb, .ref qh, .ref qm])), (qu, .inl (cJ, 8, .inr (.inl (f8 65536 0 65536 36195 36195 u5 u6 u7))))] H := by rw [← f8_4]; exact hP
    have hD : va_D A [(hm, .inr (1, [.ref a, .ref b, .ref qa, .ref qu, .ref qb, .ref qh, .ref qm])), (qu, .inl (cJ, 8, .inr (.inl (f8 65536 0 65536 36195 36195 u5 u6 u7))))] := by rw [← f8_4]; exact hD
    refine lv_aload_n hx hb d_M_quarter_43 rfl (lv_at hl 0 rfl) ?_
    refine va_get (D := D) (ci := 1) (v := .ref qu) (C := R_M) (T := T_M) (N := 7) hx hb hts (ui_M _) hown hK hP 0 rfl rfl 3 (by decide) (hts _ (gwc gw_531)) (fun _ h9 => h9) rfl d_M_quarter_44 ?_
    refine lv_iconst (v := 5) hx hb d_M_quarter_47 (by decide) ?_
    refine lv_ldc2 (v := 65536) hx hb hown (hts _ (gwc gw_654)) d_M_quarter_48 ?_
    refine st_l hx hb hK hP hD hS 1 2 rfl rfl 5 (by omega) (by omega) d_M_quarter_51 (fun H locs hP hD hS => ?_)
    have hP : va_P D cl [(hm, .inr (1, [.ref a, .ref b, .ref qa, .ref qu, .ref qb, .ref qh, .ref qm])), (qu, .inl (cJ, 8, .inr (.inl (f8 65536 0 65536 36195 36195 65536 u6 u7))))] H := by rw [← f8_5]; exact hP
    have hD : va_D A [(hm, .inr (1, [.ref a, .ref b, .ref qa, .ref qu, .ref qb, .ref qh, .ref qm])), (qu, .inl (cJ, 8, .inr (.inl (f8 65536 0 65536 36195 36195 65536 u6 u7))))] := by rw [← f8_5]; exact hD
    refine lv_aload_n hx hb d_M_quarter_52 rfl (lv_at hl 0 rfl) ?_
    refine va_get (D := D) (ci := 1) (v := .ref qu) (C := R_M) (T := T_M) (N := 7) hx hb hts (ui_M _) hown hK hP 0 rfl rfl 3 (by decide) (hts _ (gwc gw_531)) (fun _ h9 => h9) rfl d_M_quarter_53 ?_
    refine lv_bipush (v := 6) hx hb d_M_quarter_56 (by decide) ?_
    refine lv_lconst (v := 0) hx hb d_M_quarter_58 (by decide) ?_
    refine st_l hx hb hK hP hD hS 1 2 rfl rfl 6 (by omega) (by omega) d_M_quarter_59 (fun H locs hP hD hS => ?_)
    have hP : va_P D cl [(hm, .inr (1, [.ref a, .ref b, .ref qa, .ref qu, .ref qb, .ref qh, .ref qm])), (qu, .inl (cJ, 8, .inr (.inl (f8 65536 0 65536 36195 36195 65536 0 u7))))] H := by rw [← f8_6]; exact hP
    have hD : va_D A [(hm, .inr (1, [.ref a, .ref b, .ref qa, .ref qu, .ref qb, .ref qh, .ref qm])), (qu, .inl (cJ, 8, .inr (.inl (f8 65536 0 65536 36195 36195 65536 0 u7))))] := by rw [← f8_6]; exact hD
    refine lv_aload_n hx hb d_M_quarter_60 rfl (lv_at hl 0 rfl) ?_
    refine va_get (D := D) (ci := 1) (v := .ref qu) (C := R_M) (T := T_M) (N := 7) hx hb hts (ui_M _) hown hK hP 0 rfl rfl 3 (by decide) (hts _ (gwc gw_531)) (fun _ h9 => h9) rfl d_M_quarter_61 ?_
    refine lv_bipush (v := 7) hx hb d_M_quarter_64 (by decide) ?_
    refine lv_ldc2 (v := 65536) hx hb hown (hts _ (gwc gw_654)) d_M_quarter_66 ?_
    refine st_l hx hb hK hP hD hS 1 2 rfl rfl 7 (by omega) (by omega) d_M_quarter_69 (fun H locs hP hD hS => ?_)
    have hP : va_P D cl [(hm, .inr (1, [.ref a, .ref b, .ref qa, .ref qu, .ref qb, .ref qh, .ref qm])), (qu, .inl (cJ, 8, .inr (.inl (f8 65536 0 65536 36195 36195 65536 0 65536))))] H := by rw [← f8_7]; exact hP
    have hD : va_D A [(hm, .inr (1, [.ref a, .ref b, .ref qa, .ref qu, .ref qb, .ref qh, .ref qm])), (qu, .inl (cJ, 8, .inr (.inl (f8 65536 0 65536 36195 36195 65536 0 65536))))] := by rw [← f8_7]; exact hD
    refine lv_iconst (v := 0) hx hb d_M_quarter_70 (by decide) ?_
    refine lv_istore_n (lv' := [(3, .int 0), (0, .ref hm), (1, .long k)]) hx hb d_M_quarter_71 rfl hl (by decide) rfl (fun ls hl => ?_)
    refine lv_iload_n hx hb d_M_quarter_72 rfl (lv_at hl 0 rfl) ?_
    refine lv_i2l (v := 0) hx hb d_M_quarter_73 (by decide) ?_
    refine lv_lload_n hx hb d_M_quarter_74 rfl (lv_at hl 2 rfl) ?_
    refine lv_ldc2 (v := 4) hx hb hown (hts _ (gwc gw_660)) d_M_quarter_75 ?_
    refine ct_callS (av := [.long k, .long 4]) (rest := [.long 0]) (wr := [(hm, .inr (1, [.ref a, .ref b, .ref qa, .ref qu, .ref qb, .ref qh, .ref qm])), (qu, .inl (cJ, 8, .inr (.inl (f8 65536 0 65536 36195 36195 65536 0 65536))))]) (n := 2) (c_floorMod l D cI cB cJ qQ k 4 (by decide)) hx hb hml hown hts (amb_ok qQ) hK hP hD hS hA hM (gi_S gw_648 gw_275 gw_35 gw_276) rfl (by decide +kernel) ⟨by omega, by omega⟩ [] [0, 1] rfl rfl rfl rfl (by decide) rfl hl.1 rfl (Nat.le_of_ble_eq_true rfl) d_M_quarter_78 ⟨by omega, by omega⟩ (fun u_3 H locs hok hP hD hS => ?_)
    have hP : va_P D cl [(hm, .inr (1, [.ref a, .ref b, .ref qa, .ref qu, .ref qb, .ref qh, .ref qm])), (qu, .inl (cJ, 8, .inr (.inl (f8 65536 0 65536 36195 36195 65536 0 65536))))] H := hP
    have hD : va_D A [(hm, .inr (1, [.ref a, .ref b, .ref qa, .ref qu, .ref qb, .ref qh, .ref qm])), (qu, .inl (cJ, 8, .inr (.inl (f8 65536 0 65536 36195 36195 65536 0 65536))))] := hD
    refine W.eq (g2 := F0 m 81 ls [.long (fmd k 4), .long 0]) rfl ?_
    refine tp_l (1) (h_) ?_
    refine W.lcmp hx hb d_M_quarter_81 ?_
    refine lc_ge (tgt := 144) hx hb d_M_quarter_82 (by decide) (fun c_4 => ?_) (fun c_4 => ?_)
    · exact absurd c_4 (by decide)
    refine lv_iconst (v := 0) hx hb d_M_quarter_85 (by decide) ?_
    refine lv_istore (lv' := [(4, .int 0), (3, .int 0), (0, .ref hm), (1, .long k)]) hx hb d_M_quarter_86 hl (by decide) rfl (fun ls hl => ?_)
    refine lv_iload hx hb d_M_quarter_88 (lv_at hl 0 rfl) ?_
    refine lv_bipush (v := 8) hx hb d_M_quarter_90 (by decide) ?_
    refine bn_ge (a1 := 0) (b1 := 8) (tgt := 138) hx hb (by omega) (by omega) d_M_quarter_92 (by decide) (fun c_5 => ?_) (fun c_5 => ?_)
    · exact absurd c_5 (by decide)
    refine lv_aload_n hx hb d_M_quarter_95 rfl (lv_at hl 2 rfl) ?_
    refine va_get (D := D) (ci := 1) (v := .ref qu) (C := R_M) (T := T_M) (N := 7) hx hb hts (ui_M _) hown hK hP 0 rfl rfl 3 (by decide) (hts _ (gwc gw_531)) (fun _ h9 => h9) rfl d_M_quarter_96 ?_
    refine lv_iload hx hb d_M_quarter_99 (lv_at hl 0 rfl) ?_
    refine ld_l hx hb hK hP 1 2 rfl rfl 0 (by omega) (by omega) d_M_quarter_101 ?_
    refine tp_l (65536) (rfl) ?_
    refine lv_lstore (lv' := [(5, .long 65536), (4, .int 0), (3, .int 0), (0, .ref hm), (1, .long k)]) hx hb d_M_quarter_102 hl (by decide) rfl (fun ls hl => ?_)
    refine lv_aload_n hx hb d_M_quarter_104 rfl (lv_at hl 3 rfl) ?_
    refine va_get (D := D) (ci := 1) (v := .ref qu) (C := R_M) (T := T_M) (N := 7) hx hb hts (ui_M _) hown hK hP 0 rfl rfl 3 (by decide) (hts _ (gwc gw_531)) (fun _ h9 => h9) rfl d_M_quarter_105 ?_
    refine lv_iload hx hb d_M_quarter_108 (lv_at hl 1 rfl) ?_
    refine lv_aload_n hx hb d_M_quarter_110 rfl (lv_at hl 3 rfl) ?_
    refine va_get (D := D) (ci := 1) (v := .ref qu) (C := R_M) (T := T_M) (N := 7) hx hb hts (ui_M _) hown hK hP 0 rfl rfl 3 (by decide) (hts _ (gwc gw_531)) (fun _ h9 => h9) rfl d_M_quarter_111 ?_
    refine lv_iload hx hb d_M_quarter_114 (lv_at hl 1 rfl) ?_
    refine lv_iconst (v := 1) hx hb d_M_quarter_116 (by decide) ?_
    refine lv_iadd hx hb d_M_quarter_117 ?_
    refine tp_i (1) (by decide) ?_
    refine ld_l hx hb hK hP 1 2 rfl rfl 1 (by omega) (by omega) d_M_quarter_118 ?_
    refine tp_l (0) (rfl) ?_
    refine lv_lneg hx hb d_M_quarter_119 ?_
    refine st_l hx hb hK hP hD hS 1 2 rfl rfl 0 (by omega) (by omega) d_M_quarter_120 (fun H locs hP hD hS => ?_)
    have hP : va_P D cl [(hm, .inr (1, [.ref a, .ref b, .ref qa, .ref qu, .ref qb, .ref qh, .ref qm])), (qu, .inl (cJ, 8, .inr (.inl (f8 (-0) 0 65536 36195 36195 65536 0 65536))))] H := by rw [← f8_0]; exact hP
    have hD : va_D A [(hm, .inr (1, [.ref a, .ref b, .ref qa, .ref qu, .ref qb, .ref qh, .ref qm])), (qu, .inl (cJ, 8, .inr (.inl (f8 (-0) 0 65536 36195 36195 65536 0 65536))))] := by rw [← f8_0]; exact hD
    refine lv_aload_n hx hb d_M_quarter_121 rfl (lv_at hl 3 rfl) ?_
    refine va_get (D := D) (ci := 1) (v := .ref qu) (C := R_M) (T := T_M) (N := 7) hx hb hts (ui_M _) hown hK hP 0 rfl rfl 3 (by decide) (hts _ (gwc gw_531)) (fun _ h9 => h9) rfl d_M_quarter_122 ?_
    refine lv_iload hx hb d_M_quarter_125 (lv_at hl 1 rfl) ?_
    refine lv_iconst (v := 1) hx hb d_M_quarter_127 (by decide) ?_
    refine lv_iadd hx hb d_M_quarter_128 ?_
    refine tp_i (1) (by decide) ?_
    refine lv_lload hx hb d_M_quarter_129 (lv_at hl 0 rfl) ?_
    refine st_l hx hb hK hP hD hS 1 2 rfl rfl 1 (by omega) (by omega) d_M_quarter_131 (fun H locs hP hD hS => ?_)
    have hP : va_P D cl [(hm, .inr (1, [.ref a, .ref b, .ref qa, .ref qu, .ref qb, .ref qh, .ref qm])), (qu, .inl (cJ, 8, .inr (.inl (f8 (-0) 65536 65536 36195 36195 65536 0 65536))))] H := by rw [← f8_1]; exact hP
    have hD : va_D A [(hm, .inr (1, [.ref a, .ref b, .ref qa, .ref qu, .ref qb, .ref qh, .ref qm])), (qu, .inl (cJ, 8, .inr (.inl (f8 (-0) 65536 65536 36195 36195 65536 0 65536))))] := by rw [← f8_1]; exact hD
    refine lv_iinc (v := 2) (lv' := [(4, .int 2), (5, .long 65536), (3, .int 0), (0, .ref hm), (1, .long k)]) hx hb d_M_quarter_132 hl (k := 1) rfl (by first | exact nI_add _ 2 | rfl | decide) (by decide) rfl (fun ls hl => ?_)
    refine lv_goto (tgt := 88) hx hb d_M_quarter_135 (by decide) ?_
    refine lv_iload hx hb d_M_quarter_88 (lv_at hl 0 rfl) ?_
    refine lv_bipush (v := 8) hx hb d_M_quarter_90 (by decide) ?_
    refine bn_ge (a1 := 2) (b1 := 8) (tgt := 138) hx hb (by omega) (by omega) d_M_quarter_92 (by decide) (fun c_6 => ?_) (fun c_6 => ?_)
    · exact absurd c_6 (by decide)
    refine lv_aload_n hx hb d_M_quarter_95 rfl (lv_at hl 3 rfl) ?_
    refine va_get (D := D) (ci := 1) (v := .ref qu) (C := R_M) (T := T_M) (N := 7) hx hb hts (ui_M _) hown hK hP 0 rfl rfl 3 (by decide) (hts _ (gwc gw_531)) (fun _ h9 => h9) rfl d_M_quarter_96 ?_
    refine lv_iload hx hb d_M_quarter_99 (lv_at hl 0 rfl) ?_
    refine ld_l hx hb hK hP 1 2 rfl rfl 2 (by omega) (by omega) d_M_quarter_101 ?_
    refine tp_l (65536) (rfl) ?_
    refine lv_lstore (lv' := [(5, .long 65536), (4, .int 2), (3, .int 0), (0, .ref hm), (1, .long k)]) hx hb d_M_quarter_102 hl (by decide) rfl (fun ls hl => ?_)
    refine lv_aload_n hx hb d_M_quarter_104 rfl (lv_at hl 3 rfl) ?_
    refine va_get (D := D) (ci := 1) (v := .ref qu) (C := R_M) (T := T_M) (N := 7) hx hb hts (ui_M _) hown hK hP 0 rfl rfl 3 (by decide) (hts _ (gwc gw_531)) (fun _ h9 => h9) rfl d_M_quarter_105 ?_
    refine lv_iload hx hb d_M_quarter_108 (lv_at hl 1 rfl) ?_
    refine lv_aload_n hx hb d_M_quarter_110 rfl (lv_at hl 3 rfl) ?_
    refine va_get (D := D) (ci := 1) (v := .ref qu) (C := R_M) (T := T_M) (N := 7) hx hb hts (ui_M _) hown hK hP 0 rfl rfl 3 (by decide) (hts _ (gwc gw_531)) (fun _ h9 => h9) rfl d_M_quarter_111 ?_
    refine lv_iload hx hb d_M_quarter_114 (lv_at hl 1 rfl) ?_
    refine lv_iconst (v := 1) hx hb d_M_quarter_116 (by decide) ?_
    refine lv_iadd hx hb d_M_quarter_117 ?_
    refine tp_i (3) (by decide) ?_
    refine ld_l hx hb hK hP 1 2 rfl rfl 3 (by omega) (by omega) d_M_quarter_118 ?_
    refine tp_l (36195) (rfl) ?_
    refine lv_lneg hx hb d_M_quarter_119 ?_
    refine st_l hx hb hK hP hD hS 1 2 rfl rfl 2 (by omega) (by omega) d_M_quarter_120 (fun H locs hP hD hS => ?_)
    have hP : va_P D cl [(hm, .inr (1, [.ref a, .ref b, .ref qa, .ref qu, .ref qb, .ref qh, .ref qm])), (qu, .inl (cJ, 8, .inr (.inl (f8 (-0) 65536 (-36195) 36195 36195 65536 0 65536))))] H := by rw [← f8_2]; exact hP
    have hD : va_D A [(hm, .inr (1, [.ref a, .ref b, .ref qa, .ref qu, .ref qb, .ref qh, .ref qm])), (qu, .inl (cJ, 8, .inr (.inl (f8 (-0) 65536 (-36195) 36195 36195 65536 0 65536))))] := by rw [← f8_2]; exact hD
    refine lv_aload_n hx hb d_M_quarter_121 rfl (lv_at hl 3 rfl) ?_
    refine va_get (D := D) (ci := 1) (v := .ref qu) (C := R_M) (T := T_M) (N := 7) hx hb hts (ui_M _) hown hK hP 0 rfl rfl 3 (by decide) (hts _ (gwc gw_531)) (fun _ h9 => h9) rfl d_M_quarter_122 ?_
    refine lv_iload hx hb d_M_quarter_125 (lv_at hl 1 rfl) ?_
    refine lv_iconst (v := 1) hx hb d_M_quarter_127 (by decide) ?_
    refine lv_iadd hx hb d_M_quarter_128 ?_
    refine tp_i (3) (by decide) ?_
    refine lv_lload hx hb d_M_quarter_129 (lv_at hl 0 rfl) ?_
    refine st_l hx hb hK hP hD hS 1 2 rfl rfl 3 (by omega) (by omega) d_M_quarter_131 (fun H locs hP hD hS => ?_)
    have hP : va_P D cl [(hm, .inr (1, [.ref a, .ref b, .ref qa, .ref qu, .ref qb, .ref qh, .ref qm])), (qu, .inl (cJ, 8, .inr (.inl (f8 (-0) 65536 (-36195) 65536 36195 65536 0 65536))))] H := by rw [← f8_3]; exact hP
    have hD : va_D A [(hm, .inr (1, [.ref a, .ref b, .ref qa, .ref qu, .ref qb, .ref qh, .ref qm])), (qu, .inl (cJ, 8, .inr (.inl (f8 (-0) 65536 (-36195) 65536 36195 65536 0 65536))))] := by rw [← f8_3]; exact hD
    refine lv_iinc (v := 4) (lv' := [(4, .int 4), (5, .long 65536), (3, .int 0), (0, .ref hm), (1, .long k)]) hx hb d_M_quarter_132 hl (k := 1) rfl (by first | exact nI_add _ 2 | rfl | decide) (by decide) rfl (fun ls hl => ?_)
    refine lv_goto (tgt := 88) hx hb d_M_quarter_135 (by decide) ?_
    refine lv_iload hx hb d_M_quarter_88 (lv_at hl 0 rfl) ?_
    refine lv_bipush (v := 8) hx hb d_M_quarter_90 (by decide) ?_
    refine bn_ge (a1 := 4) (b1 := 8) (tgt := 138) hx hb (by omega) (by omega) d_M_quarter_92 (by decide) (fun c_7 => ?_) (fun c_7 => ?_)
    · exact absurd c_7 (by decide)
    refine lv_aload_n hx hb d_M_quarter_95 rfl (lv_at hl 3 rfl) ?_
    refine va_get (D := D) (ci := 1) (v := .ref qu) (C := R_M) (T := T_M) (N := 7) hx hb hts (ui_M _) hown hK hP 0 rfl rfl 3 (by decide) (hts _ (gwc gw_531)) (fun _ h9 => h9) rfl d_M_quarter_96 ?_
    refine lv_iload hx hb d_M_quarter_99 (lv_at hl 0 rfl) ?_
    refine ld_l hx hb hK hP 1 2 rfl rfl 4 (by omega) (by omega) d_M_quarter_101 ?_
    refine tp_l (36195) (rfl) ?_
    refine lv_lstore (lv' := [(5, .long 36195), (4, .int 4), (3, .int 0), (0, .ref hm), (1, .long k)]) hx hb d_M_quarter_102 hl (by decide) rfl (fun ls hl => ?_)
    refine lv_aload_n hx hb d_M_quarter_104 rfl (lv_at hl 3 rfl) ?_
    refine va_get (D := D) (ci := 1) (v := .ref qu) (C := R_M) (T := T_M) (N := 7) hx hb hts (ui_M _) hown hK hP 0 rfl rfl 3 (by decide) (hts _ (gwc gw_531)) (fun _ h9 => h9) rfl d_M_quarter_105 ?_
    refine lv_iload hx hb d_M_quarter_108 (lv_at hl 1 rfl) ?_
    refine lv_aload_n hx hb d_M_quarter_110 rfl (lv_at hl 3 rfl) ?_
    refine va_get (D := D) (ci := 1) (v := .ref qu) (C := R_M) (T := T_M) (N := 7) hx hb hts (ui_M _) hown hK hP 0 rfl rfl 3 (by decide) (hts _ (gwc gw_531)) (fun _ h9 => h9) rfl d_M_quarter_111 ?_
    refine lv_iload hx hb d_M_quarter_114 (lv_at hl 1 rfl) ?_
    refine lv_iconst (v := 1) hx hb d_M_quarter_116 (by decide) ?_
    refine lv_iadd hx hb d_M_quarter_117 ?_
    refine tp_i (5) (by decide) ?_
    refine ld_l hx hb hK hP 1 2 rfl rfl 5 (by omega) (by omega) d_M_quarter_118 ?_
    refine tp_l (65536) (rfl) ?_
    refine lv_lneg hx hb d_M_quarter_119 ?_
    refine st_l hx hb hK hP hD hS 1 2 rfl rfl 4 (by omega) (by omega) d_M_quarter_120 (fun H locs hP hD hS => ?_)
    have hP : va_P D cl [(hm, .inr (1, [.ref a, .ref b, .ref qa, .ref qu, .ref qb, .ref qh, .ref qm])), (qu, .inl (cJ, 8, .inr (.inl (f8 (-0) 65536 (-36195) 65536 (-65536) 65536 0 65536))))] H := by rw [← f8_4]; exact hP
    have hD : va_D A [(hm, .inr (1, [.ref a, .ref b, .ref qa, .ref qu, .ref qb, .ref qh, .ref qm])), (qu, .inl (cJ, 8, .inr (.inl (f8 (-0) 65536 (-36195) 65536 (-65536) 65536 0 65536))))] := by rw [← f8_4]; exact hD
    refine lv_aload_n hx hb d_M_quarter_121 rfl (lv_at hl 3 rfl) ?_
    refine va_get (D := D) (ci := 1) (v := .ref qu) (C := R_M) (T := T_M) (N := 7) hx hb hts (ui_M _) hown hK hP 0 rfl rfl 3 (by decide) (hts _ (gwc gw_531)) (fun _ h9 => h9) rfl d_M_quarter_122 ?_
    refine lv_iload hx hb d_M_quarter_125 (lv_at hl 1 rfl) ?_
    refine lv_iconst (v := 1) hx hb d_M_quarter_127 (by decide) ?_
    refine lv_iadd hx hb d_M_quarter_128 ?_
    refine tp_i (5) (by decide) ?_
    refine lv_lload hx hb d_M_quarter_129 (lv_at hl 0 rfl) ?_
    refine st_l hx hb hK hP hD hS 1 2 rfl rfl 5 (by omega) (by omega) d_M_quarter_131 (fun H locs hP hD hS => ?_)
    have hP : va_P D cl [(hm, .inr (1, [.ref a, .ref b, .ref qa, .ref qu, .ref qb, .ref qh, .ref qm])), (qu, .inl (cJ, 8, .inr (.inl (f8 (-0) 65536 (-36195) 65536 (-65536) 36195 0 65536))))] H := by rw [← f8_5]; exact hP
    have hD : va_D A [(hm, .inr (1, [.ref a, .ref b, .ref qa, .ref qu, .ref qb, .ref qh, .ref qm])), (qu, .inl (cJ, 8, .inr (.inl (f8 (-0) 65536 (-36195) 65536 (-65536) 36195 0 65536))))] := by rw [← f8_5]; exact hD
    refine lv_iinc (v := 6) (lv' := [(4, .int 6), (5, .long 36195), (3, .int 0), (0, .ref hm), (1, .long k)]) hx hb d_M_quarter_132 hl (k := 1) rfl (by first | exact nI_add _ 2 | rfl | decide) (by decide) rfl (fun ls hl => ?_)
    refine lv_goto (tgt := 88) hx hb d_M_quarter_135 (by decide) ?_
    refine lv_iload hx hb d_M_quarter_88 (lv_at hl 0 rfl) ?_
    refine lv_bipush (v := 8) hx hb d_M_quarter_90 (by decide) ?_
    refine bn_ge (a1 := 6) (b1 := 8) (tgt := 138) hx hb (by omega) (by omega) d_M_quarter_92 (by decide) (fun c_8 => ?_) (fun c_8 => ?_)
    · exact absurd c_8 (by decide)
    refine lv_aload_n hx hb d_M_quarter_95 rfl (lv_at hl 3 rfl) ?_
    refine va_get (D := D) (ci := 1) (v := .ref qu) (C := R_M) (T := T_M) (N := 7) hx hb hts (ui_M _) hown hK hP 0 rfl rfl 3 (by decide) (hts _ (gwc gw_531)) (fun _ h9 => h9) rfl d_M_quarter_96 ?_
    refine lv_iload hx hb d_M_quarter_99 (lv_at hl 0 rfl) ?_
    refine ld_l hx hb hK hP 1 2 rfl rfl 6 (by omega) (by omega) d_M_quarter_101 ?_
    refine tp_l (0) (rfl) ?_
    refine lv_lstore (lv' := [(5, .long 0), (4, .int 6), (3, .int 0), (0, .ref hm), (1, .long k)]) hx hb d_M_quarter_102 hl (by decide) rfl (fun ls hl => ?_)
    refine lv_aload_n hx hb d_M_quarter_104 rfl (lv_at hl 3 rfl) ?_
    refine va_get (D := D) (ci := 1) (v := .ref qu) (C := R_M) (T := T_M) (N := 7) hx hb hts (ui_M _) hown hK hP 0 rfl rfl 3 (by decide) (hts _ (gwc gw_531)) (fun _ h9 => h9) rfl d_M_quarter_105 ?_
    refine lv_iload hx hb d_M_quarter_108 (lv_at hl 1 rfl) ?_
    refine lv_aload_n hx hb d_M_quarter_110 rfl (lv_at hl 3 rfl) ?_
    refine va_get (D := D) (ci := 1) (v := .ref qu) (C := R_M) (T := T_M) (N := 7) hx hb hts (ui_M _) hown hK hP 0 rfl rfl 3 (by decide) (hts _ (gwc gw_531)) (fun _ h9 => h9) rfl d_M_quarter_111 ?_
    refine lv_iload hx hb d_M_quarter_114 (lv_at hl 1 rfl) ?_
    refine lv_iconst (v := 1) hx hb d_M_quarter_116 (by decide) ?_
    refine lv_iadd hx hb d_M_quarter_117 ?_
    refine tp_i (7) (by decide) ?_
    refine ld_l hx hb hK hP 1 2 rfl rfl 7 (by omega) (by omega) d_M_quarter_118 ?_
    refine tp_l (65536) (rfl) ?_
    refine lv_lneg hx hb d_M_quarter_119 ?_
    refine st_l hx hb hK hP hD hS 1 2 rfl rfl 6 (by omega) (by omega) d_M_quarter_120 (fun H locs hP hD hS => ?_)
    have hP : va_P D cl [(hm, .inr (1, [.ref a, .ref b, .ref qa, .ref qu, .ref qb, .ref qh, .ref qm])), (qu, .inl (cJ, 8, .inr (.inl (f8 (-0) 65536 (-36195) 65536 (-65536) 36195 (-65536) 65536))))] H := by rw [← f8_6]; exact hP
    have hD : va_D A [(hm, .inr (1, [.ref a, .ref b, .ref qa, .ref qu, .ref qb, .ref qh, .ref qm])), (qu, .inl (cJ, 8, .inr (.inl (f8 (-0) 65536 (-36195) 65536 (-65536) 36195 (-65536) 65536))))] := by rw [← f8_6]; exact hD
    refine lv_aload_n hx hb d_M_quarter_121 rfl (lv_at hl 3 rfl) ?_
    refine va_get (D := D) (ci := 1) (v := .ref qu) (C := R_M) (T := T_M) (N := 7) hx hb hts (ui_M _) hown hK hP 0 rfl rfl 3 (by decide) (hts _ (gwc gw_531)) (fun _ h9 => h9) rfl d_M_quarter_122 ?_
    refine lv_iload hx hb d_M_quarter_125 (lv_at hl 1 rfl) ?_
    refine lv_iconst (v := 1) hx hb d_M_quarter_127 (by decide) ?_
    refine lv_iadd hx hb d_M_quarter_128 ?_
    refine tp_i (7) (by decide) ?_
    refine lv_lload hx hb d_M_quarter_129 (lv_at hl 0 rfl) ?_
    refine st_l hx hb hK hP hD hS 1 2 rfl rfl 7 (by omega) (by omega) d_M_quarter_131 (fun H locs hP hD hS => ?_)
    have hP : va_P D cl [(hm, .inr (1, [.ref a, .ref b, .ref qa, .ref qu, .ref qb, .ref qh, .ref qm])), (qu, .inl (cJ, 8, .inr (.inl (f8 (-0) 65536 (-36195) 65536 (-65536) 36195 (-65536) 0))))] H := by rw [← f8_7]; exact hP
    have hD : va_D A [(hm, .inr (1, [.ref a, .ref b, .ref qa, .ref qu, .ref qb, .ref qh, .ref qm])), (qu, .inl (cJ, 8, .inr (.inl (f8 (-0) 65536 (-36195) 65536 (-65536) 36195 (-65536) 0))))] := by rw [← f8_7]; exact hD
    refine lv_iinc (v := 8) (lv' := [(4, .int 8), (5, .long 0), (3, .int 0), (0, .ref hm), (1, .long k)]) hx hb d_M_quarter_132 hl (k := 1) rfl (by first | exact nI_add _ 2 | rfl | decide) (by decide) rfl (fun ls hl => ?_)
    refine lv_goto (tgt := 88) hx hb d_M_quarter_135 (by decide) ?_
    refine lv_iload hx hb d_M_quarter_88 (lv_at hl 0 rfl) ?_
    refine lv_bipush (v := 8) hx hb d_M_quarter_90 (by decide) ?_
    refine bn_ge (a1 := 8) (b1 := 8) (tgt := 138) hx hb (by omega) (by omega) d_M_quarter_92 (by decide) (fun c_9 => ?_) (fun c_9 => ?_)
    rotate_left
    · exact absurd c_9 (by decide)
    refine lv_iinc (v := 1) (lv' := [(3, .int 1), (4, .int 8), (5, .long 0), (0, .ref hm), (1, .long k)]) hx hb d_M_quarter_138 hl (k := 2) rfl (by first | exact nI_add _ 1 | rfl | decide) (by decide) rfl (fun ls hl => ?_)
    refine lv_goto (tgt := 72) hx hb d_M_quarter_141 (by decide) ?_
    refine lv_iload_n hx hb d_M_quarter_72 rfl (lv_at hl 0 rfl) ?_
    refine lv_i2l (v := 1) hx hb d_M_quarter_73 (by decide) ?_
    refine lv_lload_n hx hb d_M_quarter_74 rfl (lv_at hl 4 rfl) ?_
    refine lv_ldc2 (v := 4) hx hb hown (hts _ (gwc gw_660)) d_M_quarter_75 ?_
    refine ct_callS (av := [.long k, .long 4]) (rest := [.long 1]) (wr := [(hm, .inr (1, [.ref a, .ref b, .ref qa, .ref qu, .ref qb, .ref qh, .ref qm])), (qu, .inl (cJ, 8, .inr (.inl (f8 (-0) 65536 (-36195) 65536 (-65536) 36195 (-65536) 0))))]) (n := 2) (c_floorMod l D cI cB cJ qQ k 4 (by decide)) hx hb hml hown hts (amb_ok qQ) hK hP hD hS hA hM (gi_S gw_648 gw_275 gw_35 gw_276) rfl (by decide +kernel) ⟨by omega, by omega⟩ [] [0, 1] rfl rfl rfl rfl (by decide) rfl hl.1 rfl (Nat.le_of_ble_eq_true rfl) d_M_quarter_78 ⟨by omega, by omega⟩ (fun u_10 H locs hok hP hD hS => ?_)
    have hP : va_P D cl [(hm, .inr (1, [.ref a, .ref b, .ref qa, .ref qu, .ref qb, .ref qh, .ref qm])), (qu, .inl (cJ, 8, .inr (.inl (f8 (-0) 65536 (-36195) 65536 (-65536) 36195 (-65536) 0))))] H := hP
    have hD : va_D A [(hm, .inr (1, [.ref a, .ref b, .ref qa, .ref qu, .ref qb, .ref qh, .ref qm])), (qu, .inl (cJ, 8, .inr (.inl (f8 (-0) 65536 (-36195) 65536 (-65536) 36195 (-65536) 0))))] := hD
    refine W.eq (g2 := F0 m 81 ls [.long (fmd k 4), .long 1]) rfl ?_
    refine tp_l (1) (h_) ?_
    refine W.lcmp hx hb d_M_quarter_81 ?_
    refine lc_ge (tgt := 144) hx hb d_M_quarter_82 (by decide) (fun c_11 => ?_) (fun c_11 => ?_)
    rotate_left
    · exact absurd c_11 (by decide)
    exact ct_retv hQ hx hb hr hlocks hP hD hS (-0, 65536, -36195, 65536, -65536, 36195, -65536, 0) [(hm, .inr (1, [.ref a, .ref b, .ref qa, .ref qu, .ref qb, .ref qh, .ref qm])), (qu, .inl (cJ, 8, .inr (.inl (f8 (-0) 65536 (-36195) 65536 (-65536) 36195 (-65536) 0))))] [0, 1] (rfl) (by rw [h_]; decide) (rfl) rfl rfl (by omega) (by omega) d_M_quarter_144
  · skip
    refine lv_aload_n hx hb d_M_quarter_0 rfl (lv_at hl 0 rfl) ?_
    refine va_get (D := D) (ci := 1) (v := .ref qu) (C := R_M) (T := T_M) (N := 7) hx hb hts (ui_M _) hown hK hP 0 rfl rfl 3 (by decide) (hts _ (gwc gw_531)) (fun _ h9 => h9) rfl d_M_quarter_1 ?_
    refine lv_iconst (v := 0) hx hb d_M_quarter_4 (by decide) ?_
    refine lv_ldc2 (v := 65536) hx hb hown (hts _ (gwc gw_654)) d_M_quarter_5 ?_
    refine st_l hx hb hK hP hD hS 1 2 rfl rfl 0 (by omega) (by omega) d_M_quarter_8 (fun H locs hP hD hS => ?_)
    have hP : va_P D cl [(hm, .inr (1, [.ref a, .ref b, .ref qa, .ref qu, .ref qb, .ref qh, .ref qm])), (qu, .inl (cJ, 8, .inr (.inl (f8 65536 u1 u2 u3 u4 u5 u6 u7))))] H := by rw [← f8_0]; exact hP
    have hD : va_D A [(hm, .inr (1, [.ref a, .ref b, .ref qa, .ref qu, .ref qb, .ref qh, .ref qm])), (qu, .inl (cJ, 8, .inr (.inl (f8 65536 u1 u2 u3 u4 u5 u6 u7))))] := by rw [← f8_0]; exact hD
    refine lv_aload_n hx hb d_M_quarter_9 rfl (lv_at hl 0 rfl) ?_
    refine va_get (D := D) (ci := 1) (v := .ref qu) (C := R_M) (T := T_M) (N := 7) hx hb hts (ui_M _) hown hK hP 0 rfl rfl 3 (by decide) (hts _ (gwc gw_531)) (fun _ h9 => h9) rfl d_M_quarter_10 ?_
    refine lv_iconst (v := 1) hx hb d_M_quarter_13 (by decide) ?_
    refine lv_lconst (v := 0) hx hb d_M_quarter_14 (by decide) ?_
    refine st_l hx hb hK hP hD hS 1 2 rfl rfl 1 (by omega) (by omega) d_M_quarter_15 (fun H locs hP hD hS => ?_)
    have hP : va_P D cl [(hm, .inr (1, [.ref a, .ref b, .ref qa, .ref qu, .ref qb, .ref qh, .ref qm])), (qu, .inl (cJ, 8, .inr (.inl (f8 65536 0 u2 u3 u4 u5 u6 u7))))] H := by rw [← f8_1]; exact hP
    have hD : va_D A [(hm, .inr (1, [.ref a, .ref b, .ref qa, .ref qu, .ref qb, .ref qh, .ref qm])), (qu, .inl (cJ, 8, .inr (.inl (f8 65536 0 u2 u3 u4 u5 u6 u7))))] := by rw [← f8_1]; exact hD
    refine lv_aload_n hx hb d_M_quarter_16 rfl (lv_at hl 0 rfl) ?_
    refine va_get (D := D) (ci := 1) (v := .ref qu) (C := R_M) (T := T_M) (N := 7) hx hb hts (ui_M _) hown hK hP 0 rfl rfl 3 (by decide) (hts _ (gwc gw_531)) (fun _ h9 => h9) rfl d_M_quarter_17 ?_
    refine lv_iconst (v := 2) hx hb d_M_quarter_20 (by decide) ?_
    refine lv_ldc2 (v := 65536) hx hb hown (hts _ (gwc gw_654)) d_M_quarter_21 ?_
    refine st_l hx hb hK hP hD hS 1 2 rfl rfl 2 (by omega) (by omega) d_M_quarter_24 (fun H locs hP hD hS => ?_)
    have hP : va_P D cl [(hm, .inr (1, [.ref a, .ref b, .ref qa, .ref qu, .ref qb, .ref qh, .ref qm])), (qu, .inl (cJ, 8, .inr (.inl (f8 65536 0 65536 u3 u4 u5 u6 u7))))] H := by rw [← f8_2]; exact hP
    have hD : va_D A [(hm, .inr (1, [.ref a, .ref b, .ref qa, .ref qu, .ref qb, .ref qh, .ref qm])), (qu, .inl (cJ, 8, .inr (.inl (f8 65536 0 65536 u3 u4 u5 u6 u7))))] := by rw [← f8_2]; exact hD
    refine lv_aload_n hx hb d_M_quarter_25 rfl (lv_at hl 0 rfl) ?_
    refine va_get (D := D) (ci := 1) (v := .ref qu) (C := R_M) (T := T_M) (N := 7) hx hb hts (ui_M _) hown hK hP 0 rfl rfl 3 (by decide) (hts _ (gwc gw_531)) (fun _ h9 => h9) rfl d_M_quarter_26 ?_
    refine lv_iconst (v := 3) hx hb d_M_quarter_29 (by decide) ?_
    refine lv_ldc2 (v := 36195) hx hb hown (hts _ (gwc gw_659)) d_M_quarter_30 ?_
    refine st_l hx hb hK hP hD hS 1 2 rfl rfl 3 (by omega) (by omega) d_M_quarter_33 (fun H locs hP hD hS => ?_)
    have hP : va_P D cl [(hm, .inr (1, [.ref a, .ref b, .ref qa, .ref qu, .ref qb, .ref qh, .ref qm])), (qu, .inl (cJ, 8, .inr (.inl (f8 65536 0 65536 36195 u4 u5 u6 u7))))] H := by rw [← f8_3]; exact hP
    have hD : va_D A [(hm, .inr (1, [.ref a, .ref b, .ref qa, .ref qu, .ref qb, .ref qh, .ref qm])), (qu, .inl (cJ, 8, .inr (.inl (f8 65536 0 65536 36195 u4 u5 u6 u7))))] := by rw [← f8_3]; exact hD
    refine lv_aload_n hx hb d_M_quarter_34 rfl (lv_at hl 0 rfl) ?_
    refine va_get (D := D) (ci := 1) (v := .ref qu) (C := R_M) (T := T_M) (N := 7) hx hb hts (ui_M _) hown hK hP 0 rfl rfl 3 (by decide) (hts _ (gwc gw_531)) (fun _ h9 => h9) rfl d_M_quarter_35 ?_
    refine lv_iconst (v := 4) hx hb d_M_quarter_38 (by decide) ?_
    refine lv_ldc2 (v := 36195) hx hb hown (hts _ (gwc gw_659)) d_M_quarter_39 ?_
    refine st_l hx hb hK hP hD hS 1 2 rfl rfl 4 (by omega) (by omega) d_M_quarter_42 (fun H locs hP hD hS => ?_)
    have hP : va_P D cl [(hm, .inr (1, [.ref a, .ref b, .ref qa, .ref qu, .ref qb, .ref qh, .ref qm])), (qu, .inl (cJ, 8, .inr (.inl (f8 65536 0 65536 36195 36195 u5 u6 u7))))] H := by rw [← f8_4]; exact hP
    have hD : va_D A [(hm, .inr (1, [.ref a, .ref b, .ref qa, .ref qu, .ref qb, .ref qh, .ref qm])), (qu, .inl (cJ, 8, .inr (.inl (f8 65536 0 65536 36195 36195 u5 u6 u7))))] := by rw [← f8_4]; exact hD
    refine lv_aload_n hx hb d_M_quarter_43 rfl (lv_at hl 0 rfl) ?_
    refine va_get (D := D) (ci := 1) (v := .ref qu) (C := R_M) (T := T_M) (N := 7) hx hb hts (ui_M _) hown hK hP 0 rfl rfl 3 (by decide) (hts _ (gwc gw_531)) (fun _ h9 => h9) rfl d_M_quarter_44 ?_
    refine lv_iconst (v := 5) hx hb d_M_quarter_47 (by decide) ?_
    refine lv_ldc2 (v := 65536) hx hb hown (hts _ (gwc gw_654)) d_M_quarter_48 ?_
    refine st_l hx hb hK hP hD hS 1 2 rfl rfl 5 (by omega) (by omega) d_M_quarter_51 (fun H locs hP hD hS => ?_)
    have hP : va_P D cl [(hm, .inr (1, [.ref a, .ref b, .ref qa, .ref qu, .ref qb, .ref qh, .ref qm])), (qu, .inl (cJ, 8, .inr (.inl (f8 65536 0 65536 36195 36195 65536 u6 u7))))] H := by rw [← f8_5]; exact hP
    have hD : va_D A [(hm, .inr (1, [.ref a, .ref b, .ref qa, .ref qu, .ref qb, .ref qh, .ref qm])), (qu, .inl (cJ, 8, .inr (.inl (f8 65536 0 65536 36195 36195 65536 u6 u7))))] := by rw [← f8_5]; exact hD
    refine lv_aload_n hx hb d_M_quarter_52 rfl (lv_at hl 0 rfl) ?_
    refine va_get (D := D) (ci := 1) (v := .ref qu) (C := R_M) (T := T_M) (N := 7) hx hb hts (ui_M _) hown hK hP 0 rfl rfl 3 (by decide) (hts _ (gwc gw_531)) (fun _ h9 => h9) rfl d_M_quarter_53 ?_
    refine lv_bipush (v := 6) hx hb d_M_quarter_56 (by decide) ?_
    refine lv_lconst (v := 0) hx hb d_M_quarter_58 (by decide) ?_
    refine st_l hx hb hK hP hD hS 1 2 rfl rfl 6 (by omega) (by omega) d_M_quarter_59 (fun H locs hP hD hS => ?_)
    have hP : va_P D cl [(hm, .inr (1, [.ref a, .ref b, .ref qa, .ref qu, .ref qb, .ref qh, .ref qm])), (qu, .inl (cJ, 8, .inr (.inl (f8 65536 0 65536 36195 36195 65536 0 u7))))] H := by rw [← f8_6]; exact hP
    have hD : va_D A [(hm, .inr (1, [.ref a, .ref b, .ref qa, .ref qu, .ref qb, .ref qh, .ref qm])), (qu, .inl (cJ, 8, .inr (.inl (f8 65536 0 65536 36195 36195 65536 0 u7))))] := by rw [← f8_6]; exact hD
    refine lv_aload_n hx hb d_M_quarter_60 rfl (lv_at hl 0 rfl) ?_
    refine va_get (D := D) (ci := 1) (v := .ref qu) (C := R_M) (T := T_M) (N := 7) hx hb hts (ui_M _) hown hK hP 0 rfl rfl 3 (by decide) (hts _ (gwc gw_531)) (fun _ h9 => h9) rfl d_M_quarter_61 ?_
    refine lv_bipush (v := 7) hx hb d_M_quarter_64 (by decide) ?_
    refine lv_ldc2 (v := 65536) hx hb hown (hts _ (gwc gw_654)) d_M_quarter_66 ?_
    refine st_l hx hb hK hP hD hS 1 2 rfl rfl 7 (by omega) (by omega) d_M_quarter_69 (fun H locs hP hD hS => ?_)
    have hP : va_P D cl [(hm, .inr (1, [.ref a, .ref b, .ref qa, .ref qu, .ref qb, .ref qh, .ref qm])), (qu, .inl (cJ, 8, .inr (.inl (f8 65536 0 65536 36195 36195 65536 0 65536))))] H := by rw [← f8_7]; exact hP
    have hD : va_D A [(hm, .inr (1, [.ref a, .ref b, .ref qa, .ref qu, .ref qb, .ref qh, .ref qm])), (qu, .inl (cJ, 8, .inr (.inl (f8 65536 0 65536 36195 36195 65536 0 65536))))] := by rw [← f8_7]; exact hD
    refine lv_iconst (v := 0) hx hb d_M_quarter_70 (by decide) ?_
    refine lv_istore_n (lv' := [(3, .int 0), (0, .ref hm), (1, .long k)]) hx hb d_M_quarter_71 rfl hl (by decide) rfl (fun ls hl => ?_)
    refine lv_iload_n hx hb d_M_quarter_72 rfl (lv_at hl 0 rfl) ?_
    refine lv_i2l (v := 0) hx hb d_M_quarter_73 (by decide) ?_
    refine lv_lload_n hx hb d_M_quarter_74 rfl (lv_at hl 2 rfl) ?_
    refine lv_ldc2 (v := 4) hx hb hown (hts _ (gwc gw_660)) d_M_quarter_75 ?_
    refine ct_callS (av := [.long k, .long 4]) (rest := [.long 0]) (wr := [(hm, .inr (1, [.ref a, .ref b, .ref qa, .ref qu, .ref qb, .ref qh, .ref qm])), (qu, .inl (cJ, 8, .inr (.inl (f8 65536 0 65536 36195 36195 65536 0 65536))))]) (n := 2) (c_floorMod l D cI cB cJ qQ k 4 (by decide)) hx hb hml hown hts (amb_ok qQ) hK hP hD hS hA hM (gi_S gw_648 gw_275 gw_35 gw_276) rfl (by decide +kernel) ⟨by omega, by omega⟩ [] [0, 1] rfl rfl rfl rfl (by decide) rfl hl.1 rfl (Nat.le_of_ble_eq_true rfl) d_M_quarter_78 ⟨by omega, by omega⟩ (fun u_12 H locs hok hP hD hS => ?_)
    have hP : va_P D cl [(hm, .inr (1, [.ref a, .ref b, .ref qa, .ref qu, .ref qb, .ref qh, .ref qm])), (qu, .inl (cJ, 8, .inr (.inl (f8 65536 0 65536 36195 36195 65536 0 65536))))] H := hP
    have hD : va_D A [(hm, .inr (1, [.ref a, .ref b, .ref qa, .ref qu, .ref qb, .ref qh, .ref qm])), (qu, .inl (cJ, 8, .inr (.inl (f8 65536 0 65536 36195 36195 65536 0 65536))))] := hD
    refine W.eq (g2 := F0 m 81 ls [.long (fmd k 4), .long 0]) rfl ?_
    refine tp_l (2) (h_) ?_
    refine W.lcmp hx hb d_M_quarter_81 ?_
    refine lc_ge (tgt := 144) hx hb d_M_quarter_82 (by decide) (fun c_13 => ?_) (fun c_13 => ?_)
    · exact absurd c_13 (by decide)
    refine lv_iconst (v := 0) hx hb d_M_quarter_85 (by decide) ?_
    refine lv_istore (lv' := [(4, .int 0), (3, .int 0), (0, .ref hm), (1, .long k)]) hx hb d_M_quarter_86 hl (by decide) rfl (fun ls hl => ?_)
    refine lv_iload hx hb d_M_quarter_88 (lv_at hl 0 rfl) ?_
    refine lv_bipush (v := 8) hx hb d_M_quarter_90 (by decide) ?_
    refine bn_ge (a1 := 0) (b1 := 8) (tgt := 138) hx hb (by omega) (by omega) d_M_quarter_92 (by decide) (fun c_14 => ?_) (fun c_14 => ?_)
    · exact absurd c_14 (by decide)
    refine lv_aload_n hx hb d_M_quarter_95 rfl (lv_at hl 2 rfl) ?_
    refine va_get (D := D) (ci := 1) (v := .ref qu) (C := R_M) (T := T_M) (N := 7) hx hb hts (ui_M _) hown hK hP 0 rfl rfl 3 (by decide) (hts _ (gwc gw_531)) (fun _ h9 => h9) rfl d_M_quarter_96 ?_
    refine lv_iload hx hb d_M_quarter_99 (lv_at hl 0 rfl) ?_
    refine ld_l hx hb hK hP 1 2 rfl rfl 0 (by omega) (by omega) d_M_quarter_101 ?_
    refine tp_l (65536) (rfl) ?_
    refine lv_lstore (lv' := [(5, .long 65536), (4, .int 0), (3, .int 0), (0, .ref hm), (1, .long k)]) hx hb d_M_quarter_102 hl (by decide) rfl (fun ls hl => ?_)
    refine lv_aload_n hx hb d_M_quarter_104 rfl (lv_at hl 3 rfl) ?_
    refine va_get (D := D) (ci := 1) (v := .ref qu) (C := R_M) (T := T_M) (N := 7) hx hb hts (ui_M _) hown hK hP 0 rfl rfl 3 (by decide) (hts _ (gwc gw_531)) (fun _ h9 => h9) rfl d_M_quarter_105 ?_
    refine lv_iload hx hb d_M_quarter_108 (lv_at hl 1 rfl) ?_
    refine lv_aload_n hx hb d_M_quarter_110 rfl (lv_at hl 3 rfl) ?_
    refine va_get (D := D) (ci := 1) (v := .ref qu) (C := R_M) (T := T_M) (N := 7) hx hb hts (ui_M _) hown hK hP 0 rfl rfl 3 (by decide) (hts _ (gwc gw_531)) (fun _ h9 => h9) rfl d_M_quarter_111 ?_
    refine lv_iload hx hb d_M_quarter_114 (lv_at hl 1 rfl) ?_
    refine lv_iconst (v := 1) hx hb d_M_quarter_116 (by decide) ?_
    refine lv_iadd hx hb d_M_quarter_117 ?_
    refine tp_i (1) (by decide) ?_
    refine ld_l hx hb hK hP 1 2 rfl rfl 1 (by omega) (by omega) d_M_quarter_118 ?_
    refine tp_l (0) (rfl) ?_
    refine lv_lneg hx hb d_M_quarter_119 ?_
    refine st_l hx hb hK hP hD hS 1 2 rfl rfl 0 (by omega) (by omega) d_M_quarter_120 (fun H locs hP hD hS => ?_)
    have hP : va_P D cl [(hm, .inr (1, [.ref a, .ref b, .ref qa, .ref qu, .ref qb, .ref qh, .ref qm])), (qu, .inl (cJ, 8, .inr (.inl (f8 (-0) 0 65536 36195 36195 65536 0 65536))))] H := by rw [← f8_0]; exact hP
    have hD : va_D A [(hm, .inr (1, [.ref a, .ref b, .ref qa, .ref qu, .ref qb, .ref qh, .ref qm])), (qu, .inl (cJ, 8, .inr (.inl (f8 (-0) 0 65536 36195 36195 65536 0 65536))))] := by rw [← f8_0]; exact hD
    refine lv_aload_n hx hb d_M_quarter_121 rfl (lv_at hl 3 rfl) ?_
    refine va_get (D := D) (ci := 1) (v := .ref qu) (C := R_M) (T := T_M) (N := 7) hx hb hts (ui_M _) hown hK hP 0 rfl rfl 3 (by decide) (hts _ (gwc gw_531)) (fun _ h9 => h9) rfl d_M_quarter_122 ?_
    refine lv_iload hx hb d_M_quarter_125 (lv_at hl 1 rfl) ?_
    refine lv_iconst (v := 1) hx hb d_M_quarter_127 (by decide) ?_
    refine lv_iadd hx hb d_M_quarter_128 ?_
    refine tp_i (1) (by decide) ?_
    refine lv_lload hx hb d_M_quarter_129 (lv_at hl 0 rfl) ?_
    refine st_l hx hb hK hP hD hS 1 2 rfl rfl 1 (by omega) (by omega) d_M_quarter_131 (fun H locs hP hD hS => ?_)
    have hP : va_P D cl [(hm, .inr (1, [.ref a, .ref b, .ref qa, .ref qu, .ref qb, .ref qh, .ref qm])), (qu, .inl (cJ, 8, .inr (.inl (f8 (-0) 65536 65536 36195 36195 65536 0 65536))))] H := by rw [← f8_1]; exact hP
    have hD : va_D A [(hm, .inr (1, [.ref a, .ref b, .ref qa, .ref qu, .ref qb, .ref qh, .ref qm])), (qu, .inl (cJ, 8, .inr (.inl (f8 (-0) 65536 65536 36195 36195 65536 0 65536))))] := by rw [← f8_1]; exact hD
    refine lv_iinc (v := 2) (lv' := [(4, .int 2), (5, .long 65536), (3, .int 0), (0, .ref hm), (1, .long k)]) hx hb d_M_quarter_132 hl (k := 1) rfl (by first | exact nI_add _ 2 | rfl | decide) (by decide) rfl (fun ls hl => ?_)
    refine lv_goto (tgt := 88) hx hb d_M_quarter_135 (by decide) ?_
    refine lv_iload hx hb d_M_quarter_88 (lv_at hl 0 rfl) ?_
    refine lv_bipush (v := 8) hx hb d_M_quarter_90 (by decide) ?_
    refine bn_ge (a1 := 2) (b1 := 8) (tgt := 138) hx hb (by omega) (by omega) d_M_quarter_92 (by decide) (fun c_15 => ?_) (fun c_15 => ?_)
    · exact absurd c_15 (by decide)
    refine lv_aload_n hx hb d_M_quarter_95 rfl (lv_at hl 3 rfl) ?_
    refine va_get (D := D) (ci := 1) (v := .ref qu) (C := R_M) (T := T_M) (N := 7) hx hb hts (ui_M _) hown hK hP 0 rfl rfl 3 (by decide) (hts _ (gwc gw_531)) (fun _ h9 => h9) rfl d_M_quarter_96 ?_
    refine lv_iload hx hb d_M_quarter_99 (lv_at hl 0 rfl) ?_
    refine ld_l hx hb hK hP 1 2 rfl rfl 2 (by omega) (by omega) d_M_quarter_101 ?_
    refine tp_l (65536) (rfl) ?_
    refine lv_lstore (lv' := [(5, .long 65536), (4, .int 2), (3, .int 0), (0, .ref hm), (1, .long k)]) hx hb d_M_quarter_102 hl (by decide) rfl (fun ls hl => ?_)
    refine lv_aload_n hx hb d_M_quarter_104 rfl (lv_at hl 3 rfl) ?_
    refine va_get (D := D) (ci := 1) (v := .ref qu) (C := R_M) (T := T_M) (N := 7) hx hb hts (ui_M _) hown hK hP 0 rfl rfl 3 (by decide) (hts _ (gwc gw_531)) (fun _ h9 => h9) rfl d_M_quarter_105 ?_
    refine lv_iload hx hb d_M_quarter_108 (lv_at hl 1 rfl) ?_
    refine lv_aload_n hx hb d_M_quarter_110 rfl (lv_at hl 3 rfl) ?_
    refine va_get (D := D) (ci := 1) (v := .ref qu) (C := R_M) (T := T_M) (N := 7) hx hb hts (ui_M _) hown hK hP 0 rfl rfl 3 (by decide) (hts _ (gwc gw_531)) (fun _ h9 => h9) rfl d_M_quarter_111 ?_
    refine lv_iload hx hb d_M_quarter_114 (lv_at hl 1 rfl) ?_
    refine lv_iconst (v := 1) hx hb d_M_quarter_116 (by decide) ?_
    refine lv_iadd hx hb d_M_quarter_117 ?_
    refine tp_i (3) (by decide) ?_
    refine ld_l hx hb hK hP 1 2 rfl rfl 3 (by omega) (by omega) d_M_quarter_118 ?_
    refine tp_l (36195) (rfl) ?_
    refine lv_lneg hx hb d_M_quarter_119 ?_
    refine st_l hx hb hK hP hD hS 1 2 rfl rfl 2 (by omega) (by omega) d_M_quarter_120 (fun H locs hP hD hS => ?_)
    have hP : va_P D cl [(hm, .inr (1, [.ref a, .ref b, .ref qa, .ref qu, .ref qb, .ref qh, .ref qm])), (qu, .inl (cJ, 8, .inr (.inl (f8 (-0) 65536 (-36195) 36195 36195 65536 0 65536))))] H := by rw [← f8_2]; exact hP
    have hD : va_D A [(hm, .inr (1, [.ref a, .ref b, .ref qa, .ref qu, .ref qb, .ref qh, .ref qm])), (qu, .inl (cJ, 8, .inr (.inl (f8 (-0) 65536 (-36195) 36195 36195 65536 0 65536))))] := by rw [← f8_2]; exact hD
    refine lv_aload_n hx hb d_M_quarter_121 rfl (lv_at hl 3 rfl) ?_
    refine va_get (D := D) (ci := 1) (v := .ref qu) (C := R_M) (T := T_M) (N := 7) hx hb hts (ui_M _) hown hK hP 0 rfl rfl 3 (by decide) (hts _ (gwc gw_531)) (fun _ h9 => h9) rfl d_M_quarter_122 ?_
    refine lv_iload hx hb d_M_quarter_125 (lv_at hl 1 rfl) ?_
    refine lv_iconst (v := 1) hx hb d_M_quarter_127 (by decide) ?_
    refine lv_iadd hx hb d_M_quarter_128 ?_
    refine tp_i (3) (by decide) ?_
    refine lv_lload hx hb d_M_quarter_129 (lv_at hl 0 rfl) ?_
    refine st_l hx hb hK hP hD hS 1 2 rfl rfl 3 (by omega) (by omega) d_M_quarter_131 (fun H locs hP hD hS => ?_)
    have hP : va_P D cl [(hm, .inr (1, [.ref a, .ref b, .ref qa, .ref qu, .ref qb, .ref qh, .ref qm])), (qu, .inl (cJ, 8, .inr (.inl (f8 (-0) 65536 (-36195) 65536 36195 65536 0 65536))))] H := by rw [← f8_3]; exact hP
    have hD : va_D A [(hm, .inr (1, [.ref a, .ref b, .ref qa, .ref qu, .ref qb, .ref qh, .ref qm])), (qu, .inl (cJ, 8, .inr (.inl (f8 (-0) 65536 (-36195) 65536 36195 65536 0 65536))))] := by rw [← f8_3]; exact hD
    refine lv_iinc (v := 4) (lv' := [(4, .int 4), (5, .long 65536), (3, .int 0), (0, .ref hm), (1, .long k)]) hx hb d_M_quarter_132 hl (k := 1) rfl (by first | exact nI_add _ 2 | rfl | decide) (by decide) rfl (fun ls hl => ?_)
    refine lv_goto (tgt := 88) hx hb d_M_quarter_135 (by decide) ?_
    refine lv_iload hx hb d_M_quarter_88 (lv_at hl 0 rfl) ?_
    refine lv_bipush (v := 8) hx hb d_M_quarter_90 (by decide) ?_
    refine bn_ge (a1 := 4) (b1 := 8) (tgt := 138) hx hb (by omega) (by omega) d_M_quarter_92 (by decide) (fun c_16 => ?_) (fun c_16 => ?_)
    · exact absurd c_16 (by decide)
    refine lv_aload_n hx hb d_M_quarter_95 rfl (lv_at hl 3 rfl) ?_
    refine va_get (D := D) (ci := 1) (v := .ref qu) (C := R_M) (T := T_M) (N := 7) hx hb hts (ui_M _) hown hK hP 0 rfl rfl 3 (by decide) (hts _ (gwc gw_531)) (fun _ h9 => h9) rfl d_M_quarter_96 ?_
    refine lv_iload hx hb d_M_quarter_99 (lv_at hl 0 rfl) ?_
    refine ld_l hx hb hK hP 1 2 rfl rfl 4 (by omega) (by omega) d_M_quarter_101 ?_
    refine tp_l (36195) (rfl) ?_
    refine lv_lstore (lv' := [(5, .long 36195), (4, .int 4), (3, .int 0), (0, .ref hm), (1, .long k)]) hx hb d_M_quarter_102 hl (by decide) rfl (fun ls hl => ?_)
    refine lv_aload_n hx hb d_M_quarter_104 rfl (lv_at hl 3 rfl) ?_
    refine va_get (D := D) (ci := 1) (v := .ref qu) (C := R_M) (T := T_M) (N := 7) hx hb hts (ui_M _) hown hK hP 0 rfl rfl 3 (by decide) (hts _ (gwc gw_531)) (fun _ h9 => h9) rfl d_M_quarter_105 ?_
    refine lv_iload hx hb d_M_quarter_108 (lv_at hl 1 rfl) ?_
    refine lv_aload_n hx hb d_M_quarter_110 rfl (lv_at hl 3 rfl) ?_
    refine va_get (D := D) (ci := 1) (v := .ref qu) (C := R_M) (T := T_M) (N := 7) hx hb hts (ui_M _) hown hK hP 0 rfl rfl 3 (by decide) (hts _ (gwc gw_531)) (fun _ h9 => h9) rfl d_M_quarter_111 ?_
    refine lv_iload hx hb d_M_quarter_114 (lv_at hl 1 rfl) ?_
    refine lv_iconst (v := 1) hx hb d_M_quarter_116 (by decide) ?_
    refine lv_iadd hx hb d_M_quarter_117 ?_
    refine tp_i (5) (by decide) ?_
    refine ld_l hx hb hK hP 1 2 rfl rfl 5 (by omega) (by omega) d_M_quarter_118 ?_
    refine tp_l (65536) (rfl) ?_
    refine lv_lneg hx hb d_M_quarter_119 ?_
    refine st_l hx hb hK hP hD hS 1 2 rfl rfl 4 (by omega) (by omega) d_M_quarter_120 (fun H locs hP hD hS => ?_)
    have hP : va_P D cl [(hm, .inr (1, [.ref a, .ref b, .ref qa, .ref qu, .ref qb, .ref qh, .ref qm])), (qu, .inl (cJ, 8, .inr (.inl (f8 (-0) 65536 (-36195) 65536 (-65536) 65536 0 65536))))] H := by rw [← f8_4]; exact hP
    have hD : va_D A [(hm, .inr (1, [.ref a, .ref b, .ref qa, .ref qu, .ref qb, .ref qh, .ref qm])), (qu, .inl (cJ, 8, .inr (.inl (f8 (-0) 65536 (-36195) 65536 (-65536) 65536 0 65536))))] := by rw [← f8_4]; exact hD
    refine lv_aload_n hx hb d_M_quarter_121 rfl (lv_at hl 3 rfl) ?_
    refine va_get (D := D) (ci := 1) (v := .ref qu) (C := R_M) (T := T_M) (N := 7) hx hb hts (ui_M _) hown hK hP 0 rfl rfl 3 (by decide) (hts _ (gwc gw_531)) (fun _ h9 => h9) rfl d_M_quarter_122 ?_
    refine lv_iload hx hb d_M_quarter_125 (lv_at hl 1 rfl) ?_
    refine lv_iconst (v := 1) hx hb d_M_quarter_127 (by decide) ?_
    refine lv_iadd hx hb d_M_quarter_128 ?_
    refine tp_i (5) (by decide) ?_
    refine lv_lload hx hb d_M_quarter_129 (lv_at hl 0 rfl) ?_
    refine st_l hx hb hK hP hD hS 1 2 rfl rfl 5 (by omega) (by omega) d_M_quarter_131 (fun H locs hP hD hS => ?_)
    have hP : va_P D cl [(hm, .inr (1, [.ref a, .ref b, .ref qa, .ref qu, .ref qb, .ref qh, .ref qm])), (qu, .inl (cJ, 8, .inr (.inl (f8 (-0) 65536 (-36195) 65536 (-65536) 36195 0 65536))))] H := by rw [← f8_5]; exact hP
    have hD : va_D A [(hm, .inr (1, [.ref a, .ref b, .ref qa, .ref qu, .ref qb, .ref qh, .ref qm])), (qu, .inl (cJ, 8, .inr (.inl (f8 (-0) 65536 (-36195) 65536 (-65536) 36195 0 65536))))] := by rw [← f8_5]; exact hD
    refine lv_iinc (v := 6) (lv' := [(4, .int 6), (5, .long 36195), (3, .int 0), (0, .ref hm), (1, .long k)]) hx hb d_M_quarter_132 hl (k := 1) rfl (by first | exact nI_add _ 2 | rfl | decide) (by decide) rfl (fun ls hl => ?_)
    refine lv_goto (tgt := 88) hx hb d_M_quarter_135 (by decide) ?_
    refine lv_iload hx hb d_M_quarter_88 (lv_at hl 0 rfl) ?_
    refine lv_bipush (v := 8) hx hb d_M_quarter_90 (by decide) ?_
    refine bn_ge (a1 := 6) (b1 := 8) (tgt := 138) hx hb (by omega) (by omega) d_M_quarter_92 (by decide) (fun c_17 => ?_) (fun c_17 => ?_)
    · exact absurd c_17 (by decide)
    refine lv_aload_n hx hb d_M_quarter_95 rfl (lv_at hl 3 rfl) ?_
    refine va_get (D := D) (ci := 1) (v := .ref qu) (C := R_M) (T := T_M) (N := 7) hx hb hts (ui_M _) hown hK hP 0 rfl rfl 3 (by decide) (hts _ (gwc gw_531)) (fun _ h9 => h9) rfl d_M_quarter_96 ?_
    refine lv_iload hx hb d_M_quarter_99 (lv_at hl 0 rfl) ?_
    refine ld_l hx hb hK hP 1 2 rfl rfl 6 (by omega) (by omega) d_M_quarter_101 ?_
    refine tp_l (0) (rfl) ?_
    refine lv_lstore (lv' := [(5, .long 0), (4, .int 6), (3, .int 0), (0, .ref hm), (1, .long k)]) hx hb d_M_quarter_102 hl (by decide) rfl (fun ls hl => ?_)
    refine lv_aload_n hx hb d_M_quarter_104 rfl (lv_at hl 3 rfl) ?_
    refine va_get (D := D) (ci := 1) (v := .ref qu) (C := R_M) (T := T_M) (N := 7) hx hb hts (ui_M _) hown hK hP 0 rfl rfl 3 (by decide) (hts _ (gwc gw_531)) (fun _ h9 => h9) rfl d_M_quarter_105 ?_
    refine lv_iload hx hb d_M_quarter_108 (lv_at hl 1 rfl) ?_
    refine lv_aload_n hx hb d_M_quarter_110 rfl (lv_at hl 3 rfl) ?_
    refine va_get (D := D) (ci := 1) (v := .ref qu) (C := R_M) (T := T_M) (N := 7) hx hb hts (ui_M _) hown hK hP 0 rfl rfl 3 (by decide) (hts _ (gwc gw_531)) (fun _ h9 => h9) rfl d_M_quarter_111 ?_
    refine lv_iload hx hb d_M_quarter_114 (lv_at hl 1 rfl) ?_
    refine lv_iconst (v := 1) hx hb d_M_quarter_116 (by decide) ?_
    refine lv_iadd hx hb d_M_quarter_117 ?_
    refine tp_i (7) (by decide) ?_
    refine ld_l hx hb hK hP 1 2 rfl rfl 7 (by omega) (by omega) d_M_quarter_118 ?_
    refine tp_l (65536) (rfl) ?_
    refine lv_lneg hx hb d_M_quarter_119 ?_
    refine st_l hx hb hK hP hD hS 1 2 rfl rfl 6 (by omega) (by omega) d_M_quarter_120 (fun H locs hP hD hS => ?_)
    have hP : va_P D cl [(hm, .inr (1, [.ref a, .ref b, .ref qa, .ref qu, .ref qb, .ref qh, .ref qm])), (qu, .inl (cJ, 8, .inr (.inl (f8 (-0) 65536 (-36195) 65536 (-65536) 36195 (-65536) 65536))))] H := by rw [← f8_6]; exact hP
    have hD : va_D A [(hm, .inr (1, [.ref a, .ref b, .ref qa, .ref qu, .ref qb, .ref qh, .ref qm])), (qu, .inl (cJ, 8, .inr (.inl (f8 (-0) 65536 (-36195) 65536 (-65536) 36195 (-65536) 65536))))] := by rw [← f8_6]; exact hD
    refine lv_aload_n hx hb d_M_quarter_121 rfl (lv_at hl 3 rfl) ?_
    refine va_get (D := D) (ci := 1) (v := .ref qu) (C := R_M) (T := T_M) (N := 7) hx hb hts (ui_M _) hown hK hP 0 rfl rfl 3 (by decide) (hts _ (gwc gw_531)) (fun _ h9 => h9) rfl d_M_quarter_122 ?_
    refine lv_iload hx hb d_M_quarter_125 (lv_at hl 1 rfl) ?_
    refine lv_iconst (v := 1) hx hb d_M_quarter_127 (by decide) ?_
    refine lv_iadd hx hb d_M_quarter_128 ?_
    refine tp_i (7) (by decide) ?_
    refine lv_lload hx hb d_M_quarter_129 (lv_at hl 0 rfl) ?_
    refine st_l hx hb hK hP hD hS 1 2 rfl rfl 7 (by omega) (by omega) d_M_quarter_131 (fun H locs hP hD hS => ?_)
    have hP : va_P D cl [(hm, .inr (1, [.ref a, .ref b, .ref qa, .ref qu, .ref qb, .ref qh, .ref qm])), (qu, .inl (cJ, 8, .inr (.inl (f8 (-0) 65536 (-36195) 65536 (-65536) 36195 (-65536) 0))))] H := by rw [← f8_7]; exact hP
    have hD : va_D A [(hm, .inr (1, [.ref a, .ref b, .ref qa, .ref qu, .ref qb, .ref qh, .ref qm])), (qu, .inl (cJ, 8, .inr (.inl (f8 (-0) 65536 (-36195) 65536 (-65536) 36195 (-65536) 0))))] := by rw [← f8_7]; exact hD
    refine lv_iinc (v := 8) (lv' := [(4, .int 8), (5, .long 0), (3, .int 0), (0, .ref hm), (1, .long k)]) hx hb d_M_quarter_132 hl (k := 1) rfl (by first | exact nI_add _ 2 | rfl | decide) (by decide) rfl (fun ls hl => ?_)
    refine lv_goto (tgt := 88) hx hb d_M_quarter_135 (by decide) ?_
    refine lv_iload hx hb d_M_quarter_88 (lv_at hl 0 rfl) ?_
    refine lv_bipush (v := 8) hx hb d_M_quarter_90 (by decide) ?_
    refine bn_ge (a1 := 8) (b1 := 8) (tgt := 138) hx hb (by omega) (by omega) d_M_quarter_92 (by decide) (fun c_18 => ?_) (fun c_18 => ?_)
    rotate_left
    · exact absurd c_18 (by decide)
    refine lv_iinc (v := 1) (lv' := [(3, .int 1), (4, .int 8), (5, .long 0), (0, .ref hm), (1, .long k)]) hx hb d_M_quarter_138 hl (k := 2) rfl (by first | exact nI_add _ 1 | rfl | decide) (by decide) rfl (fun ls hl => ?_)
    refine lv_goto (tgt := 72) hx hb d_M_quarter_141 (by decide) ?_
    refine lv_iload_n hx hb d_M_quarter_72 rfl (lv_at hl 0 rfl) ?_
    refine lv_i2l (v := 1) hx hb d_M_quarter_73 (by decide) ?_
    refine lv_lload_n hx hb d_M_quarter_74 rfl (lv_at hl 4 rfl) ?_
    refine lv_ldc2 (v := 4) hx hb hown (hts _ (gwc gw_660)) d_M_quarter_75 ?_
    refine ct_callS (av := [.long k, .long 4]) (rest := [.long 1]) (wr := [(hm, .inr (1, [.ref a, .ref b, .ref qa, .ref qu, .ref qb, .ref qh, .ref qm])), (qu, .inl (cJ, 8, .inr (.inl (f8 (-0) 65536 (-36195) 65536 (-65536) 36195 (-65536) 0))))]) (n := 2) (c_floorMod l D cI cB cJ qQ k 4 (by decide)) hx hb hml hown hts (amb_ok qQ) hK hP hD hS hA hM (gi_S gw_648 gw_275 gw_35 gw_276) rfl (by decide +kernel) ⟨by omega, by omega⟩ [] [0, 1] rfl rfl rfl rfl (by decide) rfl hl.1 rfl (Nat.le_of_ble_eq_true rfl) d_M_quarter_78 ⟨by omega, by omega⟩ (fun u_19 H locs hok hP hD hS => ?_)
    have hP : va_P D cl [(hm, .inr (1, [.ref a, .ref b, .ref qa, .ref qu, .ref qb, .ref qh, .ref qm])), (qu, .inl (cJ, 8, .inr (.inl (f8 (-0) 65536 (-36195) 65536 (-65536) 36195 (-65536) 0))))] H := hP
    have hD : va_D A [(hm, .inr (1, [.ref a, .ref b, .ref qa, .ref qu, .ref qb, .ref qh, .ref qm])), (qu, .inl (cJ, 8, .inr (.inl (f8 (-0) 65536 (-36195) 65536 (-65536) 36195 (-65536) 0))))] := hD
    refine W.eq (g2 := F0 m 81 ls [.long (fmd k 4), .long 1]) rfl ?_
    refine tp_l (2) (h_) ?_
    refine W.lcmp hx hb d_M_quarter_81 ?_
    refine lc_ge (tgt := 144) hx hb d_M_quarter_82 (by decide) (fun c_20 => ?_) (fun c_20 => ?_)
    · exact absurd c_20 (by decide)
    refine lv_iconst (v := 0) hx hb d_M_quarter_85 (by decide) ?_
    refine lv_istore (lv' := [(4, .int 0), (3, .int 1), (5, .long 0), (0, .ref hm), (1, .long k)]) hx hb d_M_quarter_86 hl (by decide) rfl (fun ls hl => ?_)
    refine lv_iload hx hb d_M_quarter_88 (lv_at hl 0 rfl) ?_
    refine lv_bipush (v := 8) hx hb d_M_quarter_90 (by decide) ?_
    refine bn_ge (a1 := 0) (b1 := 8) (tgt := 138) hx hb (by omega) (by omega) d_M_quarter_92 (by decide) (fun c_21 => ?_) (fun c_21 => ?_)
    · exact absurd c_21 (by decide)
    refine lv_aload_n hx hb d_M_quarter_95 rfl (lv_at hl 3 rfl) ?_
    refine va_get (D := D) (ci := 1) (v := .ref qu) (C := R_M) (T := T_M) (N := 7) hx hb hts (ui_M _) hown hK hP 0 rfl rfl 3 (by decide) (hts _ (gwc gw_531)) (fun _ h9 => h9) rfl d_M_quarter_96 ?_
    refine lv_iload hx hb d_M_quarter_99 (lv_at hl 0 rfl) ?_
    refine ld_l hx hb hK hP 1 2 rfl rfl 0 (by omega) (by omega) d_M_quarter_101 ?_
    refine tp_l (-0) (rfl) ?_
    refine lv_lstore (lv' := [(5, .long (-0)), (4, .int 0), (3, .int 1), (0, .ref hm), (1, .long k)]) hx hb d_M_quarter_102 hl (by decide) rfl (fun ls hl => ?_)
    refine lv_aload_n hx hb d_M_quarter_104 rfl (lv_at hl 3 rfl) ?_
    refine va_get (D := D) (ci := 1) (v := .ref qu) (C := R_M) (T := T_M) (N := 7) hx hb hts (ui_M _) hown hK hP 0 rfl rfl 3 (by decide) (hts _ (gwc gw_531)) (fun _ h9 => h9) rfl d_M_quarter_105 ?_
    refine lv_iload hx hb d_M_quarter_108 (lv_at hl 1 rfl) ?_
    refine lv_aload_n hx hb d_M_quarter_110 rfl (lv_at hl 3 rfl) ?_
    refine va_get (D := D) (ci := 1) (v := .ref qu) (C := R_M) (T := T_M) (N := 7) hx hb hts (ui_M _) hown hK hP 0 rfl rfl 3 (by decide) (hts _ (gwc gw_531)) (fun _ h9 => h9) rfl d_M_quarter_111 ?_
    refine lv_iload hx hb d_M_quarter_114 (lv_at hl 1 rfl) ?_
    refine lv_iconst (v := 1) hx hb d_M_quarter_116 (by decide) ?_
    refine lv_iadd hx hb d_M_quarter_117 ?_
    refine tp_i (1) (by decide) ?_
    refine ld_l hx hb hK hP 1 2 rfl rfl 1 (by omega) (by omega) d_M_quarter_118 ?_
    refine tp_l (65536) (rfl) ?_
    refine lv_lneg hx hb d_M_quarter_119 ?_
    refine st_l hx hb hK hP hD hS 1 2 rfl rfl 0 (by omega) (by omega) d_M_quarter_120 (fun H locs hP hD hS => ?_)
    have hP : va_P D cl [(hm, .inr (1, [.ref a, .ref b, .ref qa, .ref qu, .ref qb, .ref qh, .ref qm])), (qu, .inl (cJ, 8, .inr (.inl (f8 (-65536) 65536 (-36195) 65536 (-65536) 36195 (-65536) 0))))] H := by rw [← f8_0]; exact hP
    have hD : va_D A [(hm, .inr (1, [.ref a, .ref b, .ref qa, .ref qu, .ref qb, .ref qh, .ref qm])), (qu, .inl (cJ, 8, .inr (.inl (f8 (-65536) 65536 (-36195) 65536 (-65536) 36195 (-65536) 0))))] := by rw [← f8_0]; exact hD
    refine lv_aload_n hx hb d_M_quarter_121 rfl (lv_at hl 3 rfl) ?_
    refine va_get (D := D) (ci := 1) (v := .ref qu) (C := R_M) (T := T_M) (N := 7) hx hb hts (ui_M _) hown hK hP 0 rfl rfl 3 (by decide) (hts _ (gwc gw_531)) (fun _ h9 => h9) rfl d_M_quarter_122 ?_
    refine lv_iload hx hb d_M_quarter_125 (lv_at hl 1 rfl) ?_
    refine lv_iconst (v := 1) hx hb d_M_quarter_127 (by decide) ?_
    refine lv_iadd hx hb d_M_quarter_128 ?_
    refine tp_i (1) (by decide) ?_
    refine lv_lload hx hb d_M_quarter_129 (lv_at hl 0 rfl) ?_
    refine st_l hx hb hK hP hD hS 1 2 rfl rfl 1 (by omega) (by omega) d_M_quarter_131 (fun H locs hP hD hS => ?_)
    have hP : va_P D cl [(hm, .inr (1, [.ref a, .ref b, .ref qa, .ref qu, .ref qb, .ref qh, .ref qm])), (qu, .inl (cJ, 8, .inr (.inl (f8 (-65536) (-0) (-36195) 65536 (-65536) 36195 (-65536) 0))))] H := by rw [← f8_1]; exact hP
    have hD : va_D A [(hm, .inr (1, [.ref a, .ref b, .ref qa, .ref qu, .ref qb, .ref qh, .ref qm])), (qu, .inl (cJ, 8, .inr (.inl (f8 (-65536) (-0) (-36195) 65536 (-65536) 36195 (-65536) 0))))] := by rw [← f8_1]; exact hD
    refine lv_iinc (v := 2) (lv' := [(4, .int 2), (5, .long (-0)), (3, .int 1), (0, .ref hm), (1, .long k)]) hx hb d_M_quarter_132 hl (k := 1) rfl (by first | exact nI_add _ 2 | rfl | decide) (by decide) rfl (fun ls hl => ?_)
    refine lv_goto (tgt := 88) hx hb d_M_quarter_135 (by decide) ?_
    refine lv_iload hx hb d_M_quarter_88 (lv_at hl 0 rfl) ?_
    refine lv_bipush (v := 8) hx hb d_M_quarter_90 (by decide) ?_
    refine bn_ge (a1 := 2) (b1 := 8) (tgt := 138) hx hb (by omega) (by omega) d_M_quarter_92 (by decide) (fun c_22 => ?_) (fun c_22 => ?_)
    · exact absurd c_22 (by decide)
    refine lv_aload_n hx hb d_M_quarter_95 rfl (lv_at hl 3 rfl) ?_
    refine va_get (D := D) (ci := 1) (v := .ref qu) (C := R_M) (T := T_M) (N := 7) hx hb hts (ui_M _) hown hK hP 0 rfl rfl 3 (by decide) (hts _ (gwc gw_531)) (fun _ h9 => h9) rfl d_M_quarter_96 ?_
    refine lv_iload hx hb d_M_quarter_99 (lv_at hl 0 rfl) ?_
    refine ld_l hx hb hK hP 1 2 rfl rfl 2 (by omega) (by omega) d_M_quarter_101 ?_
    refine tp_l (-36195) (rfl) ?_
    refine lv_lstore (lv' := [(5, .long (-36195)), (4, .int 2), (3, .int 1), (0, .ref hm), (1, .long k)]) hx hb d_M_quarter_102 hl (by decide) rfl (fun ls hl => ?_)
    refine lv_aload_n hx hb d_M_quarter_104 rfl (lv_at hl 3 rfl) ?_
    refine va_get (D := D) (ci := 1) (v := .ref qu) (C := R_M) (T := T_M) (N := 7) hx hb hts (ui_M _) hown hK hP 0 rfl rfl 3 (by decide) (hts _ (gwc gw_531)) (fun _ h9 => h9) rfl d_M_quarter_105 ?_
    refine lv_iload hx hb d_M_quarter_108 (lv_at hl 1 rfl) ?_
    refine lv_aload_n hx hb d_M_quarter_110 rfl (lv_at hl 3 rfl) ?_
    refine va_get (D := D) (ci := 1) (v := .ref qu) (C := R_M) (T := T_M) (N := 7) hx hb hts (ui_M _) hown hK hP 0 rfl rfl 3 (by decide) (hts _ (gwc gw_531)) (fun _ h9 => h9) rfl d_M_quarter_111 ?_
    refine lv_iload hx hb d_M_quarter_114 (lv_at hl 1 rfl) ?_
    refine lv_iconst (v := 1) hx hb d_M_quarter_116 (by decide) ?_
    refine lv_iadd hx hb d_M_quarter_117 ?_
    refine tp_i (3) (by decide) ?_
    refine ld_l hx hb hK hP 1 2 rfl rfl 3 (by omega) (by omega) d_M_quarter_118 ?_
    refine tp_l (65536) (rfl) ?_
    refine lv_lneg hx hb d_M_quarter_119 ?_
    refine st_l hx hb hK hP hD hS 1 2 rfl rfl 2 (by omega) (by omega) d_M_quarter_120 (fun H locs hP hD hS => ?_)
    have hP : va_P D cl [(hm, .inr (1, [.ref a, .ref b, .ref qa, .ref qu, .ref qb, .ref qh, .ref qm])), (qu, .inl (cJ, 8, .inr (.inl (f8 (-65536) (-0) (-65536) 65536 (-65536) 36195 (-65536) 0))))] H := by rw [← f8_2]; exact hP
    have hD : va_D A [(hm, .inr (1, [.ref a, .ref b, .ref qa, .ref qu, .ref qb, .ref qh, .ref qm])), (qu, .inl (cJ, 8, .inr (.inl (f8 (-65536) (-0) (-65536) 65536 (-65536) 36195 (-65536) 0))))] := by rw [← f8_2]; exact hD
    refine lv_aload_n hx hb d_M_quarter_121 rfl (lv_at hl 3 rfl) ?_
    refine va_get (D := D) (ci := 1) (v := .ref qu) (C := R_M) (T := T_M) (N := 7) hx hb hts (ui_M _) hown hK hP 0 rfl rfl 3 (by decide) (hts _ (gwc gw_531)) (fun _ h9 => h9) rfl d_M_quarter_122 ?_
    refine lv_iload hx hb d_M_quarter_125 (lv_at hl 1 rfl) ?_
    refine lv_iconst (v := 1) hx hb d_M_quarter_127 (by decide) ?_
    refine lv_iadd hx hb d_M_quarter_128 ?_
    refine tp_i (3) (by decide) ?_
    refine lv_lload hx hb d_M_quarter_129 (lv_at hl 0 rfl) ?_
    refine st_l hx hb hK hP hD hS 1 2 rfl rfl 3 (by omega) (by omega) d_M_quarter_131 (fun H locs hP hD hS => ?_)
    have hP : va_P D cl [(hm, .inr (1, [.ref a, .ref b, .ref qa, .ref qu, .ref qb, .ref qh, .ref qm])), (qu, .inl (cJ, 8, .inr (.inl (f8 (-65536) (-0) (-65536) (-36195) (-65536) 36195 (-65536) 0))))] H := by rw [← f8_3]; exact hP
    have hD : va_D A [(hm, .inr (1, [.ref a, .ref b, .ref qa, .ref qu, .ref qb, .ref qh, .ref qm])), (qu, .inl (cJ, 8, .inr (.inl (f8 (-65536) (-0) (-65536) (-36195) (-65536) 36195 (-65536) 0))))] := by rw [← f8_3]; exact hD
    refine lv_iinc (v := 4) (lv' := [(4, .int 4), (5, .long (-36195)), (3, .int 1), (0, .ref hm), (1, .long k)]) hx hb d_M_quarter_132 hl (k := 1) rfl (by first | exact nI_add _ 2 | rfl | decide) (by decide) rfl (fun ls hl => ?_)
    refine lv_goto (tgt := 88) hx hb d_M_quarter_135 (by decide) ?_
    refine lv_iload hx hb d_M_quarter_88 (lv_at hl 0 rfl) ?_
    refine lv_bipush (v := 8) hx hb d_M_quarter_90 (by decide) ?_
    refine bn_ge (a1 := 4) (b1 := 8) (tgt := 138) hx hb (by omega) (by omega) d_M_quarter_92 (by decide) (fun c_23 => ?_) (fun c_23 => ?_)
    · exact absurd c_23 (by decide)
    refine lv_aload_n hx hb d_M_quarter_95 rfl (lv_at hl 3 rfl) ?_
    refine va_get (D := D) (ci := 1) (v := .ref qu) (C := R_M) (T := T_M) (N := 7) hx hb hts (ui_M _) hown hK hP 0 rfl rfl 3 (by decide) (hts _ (gwc gw_531)) (fun _ h9 => h9) rfl d_M_quarter_96 ?_
    refine lv_iload hx hb d_M_quarter_99 (lv_at hl 0 rfl) ?_
    refine ld_l hx hb hK hP 1 2 rfl rfl 4 (by omega) (by omega) d_M_quarter_101 ?_
    refine tp_l (-65536) (rfl) ?_
    refine lv_lstore (lv' := [(5, .long (-65536)), (4, .int 4), (3, .int 1), (0, .ref hm), (1, .long k)]) hx hb d_M_quarter_102 hl (by decide) rfl (fun ls hl => ?_)
    refine lv_aload_n hx hb d_M_quarter_104 rfl (lv_at hl 3 rfl) ?_
    refine va_get (D := D) (ci := 1) (v := .ref qu) (C := R_M) (T := T_M) (N := 7) hx hb hts (ui_M _) hown hK hP 0 rfl rfl 3 (by decide) (hts _ (gwc gw_531)) (fun _ h9 => h9) rfl d_M_quarter_105 ?_
    refine lv_iload hx hb d_M_quarter_108 (lv_at hl 1 rfl) ?_
    refine lv_aload_n hx hb d_M_quarter_110 rfl (lv_at hl 3 rfl) ?_
    refine va_get (D := D) (ci := 1) (v := .ref qu) (C := R_M) (T := T_M) (N := 7) hx hb hts (ui_M _) hown hK hP 0 rfl rfl 3 (by decide) (hts _ (gwc gw_531)) (fun _ h9 => h9) rfl d_M_quarter_111 ?_
    refine lv_iload hx hb d_M_quarter_114 (lv_at hl 1 rfl) ?_
    refine lv_iconst (v := 1) hx hb d_M_quarter_116 (by decide) ?_
    refine lv_iadd hx hb d_M_quarter_117 ?_
    refine tp_i (5) (by decide) ?_
    refine ld_l hx hb hK hP 1 2 rfl rfl 5 (by omega) (by omega) d_M_quarter_118 ?_
    refine tp_l (36195) (rfl) ?_
    refine lv_lneg hx hb d_M_quarter_119 ?_
    refine st_l hx hb hK hP hD hS 1 2 rfl rfl 4 (by omega) (by omega) d_M_quarter_120 (fun H locs hP hD hS => ?_)
    have hP : va_P D cl [(hm, .inr (1, [.ref a, .ref b, .ref qa, .ref qu, .ref qb, .ref qh, .ref qm])), (qu, .inl (cJ, 8, .inr (.inl (f8 (-65536) (-0) (-65536) (-36195) (-36195) 36195 (-65536) 0))))] H := by rw [← f8_4]; exact hP
    have hD : va_D A [(hm, .inr (1, [.ref a, .ref b, .ref qa, .ref qu, .ref qb, .ref qh, .ref qm])), (qu, .inl (cJ, 8, .inr (.inl (f8 (-65536) (-0) (-65536) (-36195) (-36195) 36195 (-65536) 0))))] := by rw [← f8_4]; exact hD
    refine lv_aload_n hx hb d_M_quarter_121 rfl (lv_at hl 3 rfl) ?_
    refine va_get (D := D) (ci := 1) (v := .ref qu) (C := R_M) (T := T_M) (N := 7) hx hb hts (ui_M _) hown hK hP 0 rfl rfl 3 (by decide) (hts _ (gwc gw_531)) (fun _ h9 => h9) rfl d_M_quarter_122 ?_
    refine lv_iload hx hb d_M_quarter_125 (lv_at hl 1 rfl) ?_
    refine lv_iconst (v := 1) hx hb d_M_quarter_127 (by decide) ?_
    refine lv_iadd hx hb d_M_quarter_128 ?_
    refine tp_i (5) (by decide) ?_
    refine lv_lload hx hb d_M_quarter_129 (lv_at hl 0 rfl) ?_
    refine st_l hx hb hK hP hD hS 1 2 rfl rfl 5 (by omega) (by omega) d_M_quarter_131 (fun H locs hP hD hS => ?_)
    have hP : va_P D cl [(hm, .inr (1, [.ref a, .ref b, .ref qa, .ref qu, .ref qb, .ref qh, .ref qm])), (qu, .inl (cJ, 8, .inr (.inl (f8 (-65536) (-0) (-65536) (-36195) (-36195) (-65536) (-65536) 0))))] H := by rw [← f8_5]; exact hP
    have hD : va_D A [(hm, .inr (1, [.ref a, .ref b, .ref qa, .ref qu, .ref qb, .ref qh, .ref qm])), (qu, .inl (cJ, 8, .inr (.inl (f8 (-65536) (-0) (-65536) (-36195) (-36195) (-65536) (-65536) 0))))] := by rw [← f8_5]; exact hD
    refine lv_iinc (v := 6) (lv' := [(4, .int 6), (5, .long (-65536)), (3, .int 1), (0, .ref hm), (1, .long k)]) hx hb d_M_quarter_132 hl (k := 1) rfl (by first | exact nI_add _ 2 | rfl | decide) (by decide) rfl (fun ls hl => ?_)
    refine lv_goto (tgt := 88) hx hb d_M_quarter_135 (by decide) ?_
    refine lv_iload hx hb d_M_quarter_88 (lv_at hl 0 rfl) ?_
    refine lv_bipush (v := 8) hx hb d_M_quarter_90 (by decide) ?_
    refine bn_ge (a1 := 6) (b1 := 8) (tgt := 138) hx hb (by omega) (by omega) d_M_quarter_92 (by decide) (fun c_24 => ?_) (fun c_24 => ?_)
    · exact absurd c_24 (by decide)
    refine lv_aload_n hx hb d_M_quarter_95 rfl (lv_at hl 3 rfl) ?_
    refine va_get (D := D) (ci := 1) (v := .ref qu) (C := R_M) (T := T_M) (N := 7) hx hb hts (ui_M _) hown hK hP 0 rfl rfl 3 (by decide) (hts _ (gwc gw_531)) (fun _ h9 => h9) rfl d_M_quarter_96 ?_
    refine lv_iload hx hb d_M_quarter_99 (lv_at hl 0 rfl) ?_
    refine ld_l hx hb hK hP 1 2 rfl rfl 6 (by omega) (by omega) d_M_quarter_101 ?_
    refine tp_l (-65536) (rfl) ?_
    refine lv_lstore (lv' := [(5, .long (-65536)), (4, .int 6), (3, .int 1), (0, .ref hm), (1, .long k)]) hx hb d_M_quarter_102 hl (by decide) rfl (fun ls hl => ?_)
    refine lv_aload_n hx hb d_M_quarter_104 rfl (lv_at hl 3 rfl) ?_
    refine va_get (D := D) (ci := 1) (v := .ref qu) (C := R_M) (T := T_M) (N := 7) hx hb hts (ui_M _) hown hK hP 0 rfl rfl 3 (by decide) (hts _ (gwc gw_531)) (fun _ h9 => h9) rfl d_M_quarter_105 ?_
    refine lv_iload hx hb d_M_quarter_108 (lv_at hl 1 rfl) ?_
    refine lv_aload_n hx hb d_M_quarter_110 rfl (lv_at hl 3 rfl) ?_
    refine va_get (D := D) (ci := 1) (v := .ref qu) (C := R_M) (T := T_M) (N := 7) hx hb hts (ui_M _) hown hK hP 0 rfl rfl 3 (by decide) (hts _ (gwc gw_531)) (fun _ h9 => h9) rfl d_M_quarter_111 ?_
    refine lv_iload hx hb d_M_quarter_114 (lv_at hl 1 rfl) ?_
    refine lv_iconst (v := 1) hx hb d_M_quarter_116 (by decide) ?_
    refine lv_iadd hx hb d_M_quarter_117 ?_
    refine tp_i (7) (by decide) ?_
    refine ld_l hx hb hK hP 1 2 rfl rfl 7 (by omega) (by omega) d_M_quarter_118 ?_
    refine tp_l (0) (rfl) ?_
    refine lv_lneg hx hb d_M_quarter_119 ?_
    refine st_l hx hb hK hP hD hS 1 2 rfl rfl 6 (by omega) (by omega) d_M_quarter_120 (fun H locs hP hD hS => ?_)
    have hP : va_P D cl [(hm, .inr (1, [.ref a, .ref b, .ref qa, .ref qu, .ref qb, .ref qh, .ref qm])), (qu, .inl (cJ, 8, .inr (.inl (f8 (-65536) (-0) (-65536) (-36195) (-36195) (-65536) (-0) 0))))] H := by rw [← f8_6]; exact hP
    have hD : va_D A [(hm, .inr (1, [.ref a, .ref b, .ref qa, .ref qu, .ref qb, .ref qh, .ref qm])), (qu, .inl (cJ, 8, .inr (.inl (f8 (-65536) (-0) (-65536) (-36195) (-36195) (-65536) (-0) 0))))] := by rw [← f8_6]; exact hD
    refine lv_aload_n hx hb d_M_quarter_121 rfl (lv_at hl 3 rfl) ?_
    refine va_get (D := D) (ci := 1) (v := .ref qu) (C := R_M) (T := T_M) (N := 7) hx hb hts (ui_M _) hown hK hP 0 rfl rfl 3 (by decide) (hts _ (gwc gw_531)) (fun _ h9 => h9) rfl d_M_quarter_122 ?_
    refine lv_iload hx hb d_M_quarter_125 (lv_at hl 1 rfl) ?_
    refine lv_iconst (v := 1) hx hb d_M_quarter_127 (by decide) ?_
    refine lv_iadd hx hb d_M_quarter_128 ?_
    refine tp_i (7) (by decide) ?_
    refine lv_lload hx hb d_M_quarter_129 (lv_at hl 0 rfl) ?_
    refine st_l hx hb hK hP hD hS 1 2 rfl rfl 7 (by omega) (by omega) d_M_quarter_131 (fun H locs hP hD hS => ?_)
    have hP : va_P D cl [(hm, .inr (1, [.ref a, .ref b, .ref qa, .ref qu, .ref qb, .ref qh, .ref qm])), (qu, .inl (cJ, 8, .inr (.inl (f8 (-65536) (-0) (-65536) (-36195) (-36195) (-65536) (-0) (-65536)))))] H := by rw [← f8_7]; exact hP
    have hD : va_D A [(hm, .inr (1, [.ref a, .ref b, .ref qa, .ref qu, .ref qb, .ref qh, .ref qm])), (qu, .inl (cJ, 8, .inr (.inl (f8 (-65536) (-0) (-65536) (-36195) (-36195) (-65536) (-0) (-65536)))))] := by rw [← f8_7]; exact hD
    refine lv_iinc (v := 8) (lv' := [(4, .int 8), (5, .long (-65536)), (3, .int 1), (0, .ref hm), (1, .long k)]) hx hb d_M_quarter_132 hl (k := 1) rfl (by first | exact nI_add _ 2 | rfl | decide) (by decide) rfl (fun ls hl => ?_)
    refine lv_goto (tgt := 88) hx hb d_M_quarter_135 (by decide) ?_
    refine lv_iload hx hb d_M_quarter_88 (lv_at hl 0 rfl) ?_
    refine lv_bipush (v := 8) hx hb d_M_quarter_90 (by decide) ?_
    refine bn_ge (a1 := 8) (b1 := 8) (tgt := 138) hx hb (by omega) (by omega) d_M_quarter_92 (by decide) (fun c_25 => ?_) (fun c_25 => ?_)
    rotate_left
    · exact absurd c_25 (by decide)
    refine lv_iinc (v := 2) (lv' := [(3, .int 2), (4, .int 8), (5, .long (-65536)), (0, .ref hm), (1, .long k)]) hx hb d_M_quarter_138 hl (k := 2) rfl (by first | exact nI_add _ 1 | rfl | decide) (by decide) rfl (fun ls hl => ?_)
    refine lv_goto (tgt := 72) hx hb d_M_quarter_141 (by decide) ?_
    refine lv_iload_n hx hb d_M_quarter_72 rfl (lv_at hl 0 rfl) ?_
    refine lv_i2l (v := 2) hx hb d_M_quarter_73 (by decide) ?_
    refine lv_lload_n hx hb d_M_quarter_74 rfl (lv_at hl 4 rfl) ?_
    refine lv_ldc2 (v := 4) hx hb hown (hts _ (gwc gw_660)) d_M_quarter_75 ?_
    refine ct_callS (av := [.long k, .long 4]) (rest := [.long 2]) (wr := [(hm, .inr (1, [.ref a, .ref b, .ref qa, .ref qu, .ref qb, .ref qh, .ref qm])), (qu, .inl (cJ, 8, .inr (.inl (f8 (-65536) (-0) (-65536) (-36195) (-36195) (-65536) (-0) (-65536)))))]) (n := 2) (c_floorMod l D cI cB cJ qQ k 4 (by decide)) hx hb hml hown hts (amb_ok qQ) hK hP hD hS hA hM (gi_S gw_648 gw_275 gw_35 gw_276) rfl (by decide +kernel) ⟨by omega, by omega⟩ [] [0, 1] rfl rfl rfl rfl (by decide) rfl hl.1 rfl (Nat.le_of_ble_eq_true rfl) d_M_quarter_78 ⟨by omega, by omega⟩ (fun u_26 H locs hok hP hD hS => ?_)
    have hP : va_P D cl [(hm, .inr (1, [.ref a, .ref b, .ref qa, .ref qu, .ref qb, .ref qh, .ref qm])), (qu, .inl (cJ, 8, .inr (.inl (f8 (-65536) (-0) (-65536) (-36195) (-36195) (-65536) (-0) (-65536)))))] H := hP
    have hD : va_D A [(hm, .inr (1, [.ref a, .ref b, .ref qa, .ref qu, .ref qb, .ref qh, .ref qm])), (qu, .inl (cJ, 8, .inr (.inl (f8 (-65536) (-0) (-65536) (-36195) (-36195) (-65536) (-0) (-65536)))))] := hD
    refine W.eq (g2 := F0 m 81 ls [.long (fmd k 4), .long 2]) rfl ?_
    refine tp_l (2) (h_) ?_
    refine W.lcmp hx hb d_M_quarter_81 ?_
    refine lc_ge (tgt := 144) hx hb d_M_quarter_82 (by decide) (fun c_27 => ?_) (fun c_27 => ?_)
    rotate_left
    · exact absurd c_27 (by decide)
    exact ct_retv hQ hx hb hr hlocks hP hD hS (-65536, -0, -65536, -36195, -36195, -65536, -0, -65536) [(hm, .inr (1, [.ref a, .ref b, .ref qa, .ref qu, .ref qb, .ref qh, .ref qm])), (qu, .inl (cJ, 8, .inr (.inl (f8 (-65536) (-0) (-65536) (-36195) (-36195) (-65536) (-0) (-65536)))))] [0, 1] (rfl) (by rw [h_]; decide) (rfl) rfl rfl (by omega) (by omega) d_M_quarter_144
  · skip
    refine lv_aload_n hx hb d_M_quarter_0 rfl (lv_at hl 0 rfl) ?_
    refine va_get (D := D) (ci := 1) (v := .ref qu) (C := R_M) (T := T_M) (N := 7) hx hb hts (ui_M _) hown hK hP 0 rfl rfl 3 (by decide) (hts _ (gwc gw_531)) (fun _ h9 => h9) rfl d_M_quarter_1 ?_
    refine lv_iconst (v := 0) hx hb d_M_quarter_4 (by decide) ?_
    refine lv_ldc2 (v := 65536) hx hb hown (hts _ (gwc gw_654)) d_M_quarter_5 ?_
    refine st_l hx hb hK hP hD hS 1 2 rfl rfl 0 (by omega) (by omega) d_M_quarter_8 (fun H locs hP hD hS => ?_)
    have hP : va_P D cl [(hm, .inr (1, [.ref a, .ref b, .ref qa, .ref qu, .ref qb, .ref qh, .ref qm])), (qu, .inl (cJ, 8, .inr (.inl (f8 65536 u1 u2 u3 u4 u5 u6 u7))))] H := by rw [← f8_0]; exact hP
    have hD : va_D A [(hm, .inr (1, [.ref a, .ref b, .ref qa, .ref qu, .ref qb, .ref qh, .ref qm])), (qu, .inl (cJ, 8, .inr (.inl (f8 65536 u1 u2 u3 u4 u5 u6 u7))))] := by rw [← f8_0]; exact hD
    refine lv_aload_n hx hb d_M_quarter_9 rfl (lv_at hl 0 rfl) ?_
    refine va_get (D := D) (ci := 1) (v := .ref qu) (C := R_M) (T := T_M) (N := 7) hx hb hts (ui_M _) hown hK hP 0 rfl rfl 3 (by decide) (hts _ (gwc gw_531)) (fun _ h9 => h9) rfl d_M_quarter_10 ?_
    refine lv_iconst (v := 1) hx hb d_M_quarter_13 (by decide) ?_
    refine lv_lconst (v := 0) hx hb d_M_quarter_14 (by decide) ?_
    refine st_l hx hb hK hP hD hS 1 2 rfl rfl 1 (by omega) (by omega) d_M_quarter_15 (fun H locs hP hD hS => ?_)
    have hP : va_P D cl [(hm, .inr (1, [.ref a, .ref b, .ref qa, .ref qu, .ref qb, .ref qh, .ref qm])), (qu, .inl (cJ, 8, .inr (.inl (f8 65536 0 u2 u3 u4 u5 u6 u7))))] H := by rw [← f8_1]; exact hP
    have hD : va_D A [(hm, .inr (1, [.ref a, .ref b, .ref qa, .ref qu, .ref qb, .ref qh, .ref qm])), (qu, .inl (cJ, 8, .inr (.inl (f8 65536 0 u2 u3 u4 u5 u6 u7))))] := by rw [← f8_1]; exact hD
    refine lv_aload_n hx hb d_M_quarter_16 rfl (lv_at hl 0 rfl) ?_
    refine va_get (D := D) (ci := 1) (v := .ref qu) (C := R_M) (T := T_M) (N := 7) hx hb hts (ui_M _) hown hK hP 0 rfl rfl 3 (by decide) (hts _ (gwc gw_531)) (fun _ h9 => h9) rfl d_M_quarter_17 ?_
    refine lv_iconst (v := 2) hx hb d_M_quarter_20 (by decide) ?_
    refine lv_ldc2 (v := 65536) hx hb hown (hts _ (gwc gw_654)) d_M_quarter_21 ?_
    refine st_l hx hb hK hP hD hS 1 2 rfl rfl 2 (by omega) (by omega) d_M_quarter_24 (fun H locs hP hD hS => ?_)
    have hP : va_P D cl [(hm, .inr (1, [.ref a, .ref b, .ref qa, .ref qu, .ref qb, .ref qh, .ref qm])), (qu, .inl (cJ, 8, .inr (.inl (f8 65536 0 65536 u3 u4 u5 u6 u7))))] H := by rw [← f8_2]; exact hP
    have hD : va_D A [(hm, .inr (1, [.ref a, .ref b, .ref qa, .ref qu, .ref qb, .ref qh, .ref qm])), (qu, .inl (cJ, 8, .inr (.inl (f8 65536 0 65536 u3 u4 u5 u6 u7))))] := by rw [← f8_2]; exact hD
    refine lv_aload_n hx hb d_M_quarter_25 rfl (lv_at hl 0 rfl) ?_
    refine va_get (D := D) (ci := 1) (v := .ref qu) (C := R_M) (T := T_M) (N := 7) hx hb hts (ui_M _) hown hK hP 0 rfl rfl 3 (by decide) (hts _ (gwc gw_531)) (fun _ h9 => h9) rfl d_M_quarter_26 ?_
    refine lv_iconst (v := 3) hx hb d_M_quarter_29 (by decide) ?_
    refine lv_ldc2 (v := 36195) hx hb hown (hts _ (gwc gw_659)) d_M_quarter_30 ?_
    refine st_l hx hb hK hP hD hS 1 2 rfl rfl 3 (by omega) (by omega) d_M_quarter_33 (fun H locs hP hD hS => ?_)
    have hP : va_P D cl [(hm, .inr (1, [.ref a, .ref b, .ref qa, .ref qu, .ref qb, .ref qh, .ref qm])), (qu, .inl (cJ, 8, .inr (.inl (f8 65536 0 65536 36195 u4 u5 u6 u7))))] H := by rw [← f8_3]; exact hP
    have hD : va_D A [(hm, .inr (1, [.ref a, .ref b, .ref qa, .ref qu, .ref qb, .ref qh, .ref qm])), (qu, .inl (cJ, 8, .inr (.inl (f8 65536 0 65536 36195 u4 u5 u6 u7))))] := by rw [← f8_3]; exact hD
    refine lv_aload_n hx hb d_M_quarter_34 rfl (lv_at hl 0 rfl) ?_
    refine va_get (D := D) (ci := 1) (v := .ref qu) (C := R_M) (T := T_M) (N := 7) hx hb hts (ui_M _) hown hK hP 0 rfl rfl 3 (by decide) (hts _ (gwc gw_531)) (fun _ h9 => h9) rfl d_M_quarter_35 ?_
    refine lv_iconst (v := 4) hx hb d_M_quarter_38 (by decide) ?_
    refine lv_ldc2 (v := 36195) hx hb hown (hts _ (gwc gw_659)) d_M_quarter_39 ?_
    refine st_l hx hb hK hP hD hS 1 2 rfl rfl 4 (by omega) (by omega) d_M_quarter_42 (fun H locs hP hD hS => ?_)
    have hP : va_P D cl [(hm, .inr (1, [.ref a, .ref b, .ref qa, .ref qu, .ref qb, .ref qh, .ref qm])), (qu, .inl (cJ, 8, .inr (.inl (f8 65536 0 65536 36195 36195 u5 u6 u7))))] H := by rw [← f8_4]; exact hP
    have hD : va_D A [(hm, .inr (1, [.ref a, .ref b, .ref qa, .ref qu, .ref qb, .ref qh, .ref qm])), (qu, .inl (cJ, 8, .inr (.inl (f8 65536 0 65536 36195 36195 u5 u6 u7))))] := by rw [← f8_4]; exact hD
    refine lv_aload_n hx hb d_M_quarter_43 rfl (lv_at hl 0 rfl) ?_
    refine va_get (D := D) (ci := 1) (v := .ref qu) (C := R_M) (T := T_M) (N := 7) hx hb hts (ui_M _) hown hK hP 0 rfl rfl 3 (by decide) (hts _ (gwc gw_531)) (fun _ h9 => h9) rfl d_M_quarter_44 ?_
    refine lv_iconst (v := 5) hx hb d_M_quarter_47 (by decide) ?_
    refine lv_ldc2 (v := 65536) hx hb hown (hts _ (gwc gw_654)) d_M_quarter_48 ?_
    refine st_l hx hb hK hP hD hS 1 2 rfl rfl 5 (by omega) (by omega) d_M_quarter_51 (fun H locs hP hD hS => ?_)
    have hP : va_P D cl [(hm, .inr (1, [.ref a, .ref b, .ref qa, .ref qu, .ref qb, .ref qh, .ref qm])), (qu, .inl (cJ, 8, .inr (.inl (f8 65536 0 65536 36195 36195 65536 u6 u7))))] H := by rw [← f8_5]; exact hP
    have hD : va_D A [(hm, .inr (1, [.ref a, .ref b, .ref qa, .ref qu, .ref qb, .ref qh, .ref qm])), (qu, .inl (cJ, 8, .inr (.inl (f8 65536 0 65536 36195 36195 65536 u6 u7))))] := by rw [← f8_5]; exact hD
    refine lv_aload_n hx hb d_M_quarter_52 rfl (lv_at hl 0 rfl) ?_
    refine va_get (D := D) (ci := 1) (v := .ref qu) (C := R_M) (T := T_M) (N := 7) hx hb hts (ui_M _) hown hK hP 0 rfl rfl 3 (by decide) (hts _ (gwc gw_531)) (fun _ h9 => h9) rfl d_M_quarter_53 ?_
    refine lv_bipush (v := 6) hx hb d_M_quarter_56 (by decide) ?_
    refine lv_lconst (v := 0) hx hb d_M_quarter_58 (by decide) ?_
    refine st_l hx hb hK hP hD hS 1 2 rfl rfl 6 (by omega) (by omega) d_M_quarter_59 (fun H locs hP hD hS => ?_)
    have hP : va_P D cl [(hm, .inr (1, [.ref a, .ref b, .ref qa, .ref qu, .ref qb, .ref qh, .ref qm])), (qu, .inl (cJ, 8, .inr (.inl (f8 65536 0 65536 36195 36195 65536 0 u7))))] H := by rw [← f8_6]; exact hP
    have hD : va_D A [(hm, .inr (1, [.ref a, .ref b, .ref qa, .ref qu, .ref qb, .ref qh, .ref qm])), (qu, .inl (cJ, 8, .inr (.inl (f8 65536 0 65536 36195 36195 65536 0 u7))))] := by rw [← f8_6]; exact hD
    refine lv_aload_n hx hb d_M_quarter_60 rfl (lv_at hl 0 rfl) ?_
    refine va_get (D := D) (ci := 1) (v := .ref qu) (C := R_M) (T := T_M) (N := 7) hx hb hts (ui_M _) hown hK hP 0 rfl rfl 3 (by decide) (hts _ (gwc gw_531)) (fun _ h9 => h9) rfl d_M_quarter_61 ?_
    refine lv_bipush (v := 7) hx hb d_M_quarter_64 (by decide) ?_
    refine lv_ldc2 (v := 65536) hx hb hown (hts _ (gwc gw_654)) d_M_quarter_66 ?_
    refine st_l hx hb hK hP hD hS 1 2 rfl rfl 7 (by omega) (by omega) d_M_quarter_69 (fun H locs hP hD hS => ?_)
    have hP : va_P D cl [(hm, .inr (1, [.ref a, .ref b, .ref qa, .ref qu, .ref qb, .ref qh, .ref qm])), (qu, .inl (cJ, 8, .inr (.inl (f8 65536 0 65536 36195 36195 65536 0 65536))))] H := by rw [← f8_7]; exact hP
    have hD : va_D A [(hm, .inr (1, [.ref a, .ref b, .ref qa, .ref qu, .ref qb, .ref qh, .ref qm])), (qu, .inl (cJ, 8, .inr (.inl (f8 65536 0 65536 36195 36195 65536 0 65536))))] := by rw [← f8_7]; exact hD
    refine lv_iconst (v := 0) hx hb d_M_quarter_70 (by decide) ?_
    refine lv_istore_n (lv' := [(3, .int 0), (0, .ref hm), (1, .long k)]) hx hb d_M_quarter_71 rfl hl (by decide) rfl (fun ls hl => ?_)
    refine lv_iload_n hx hb d_M_quarter_72 rfl (lv_at hl 0 rfl) ?_
    refine lv_i2l (v := 0) hx hb d_M_quarter_73 (by decide) ?_
    refine lv_lload_n hx hb d_M_quarter_74 rfl (lv_at hl 2 rfl) ?_
    refine lv_ldc2 (v := 4) hx hb hown (hts _ (gwc gw_660)) d_M_quarter_75 ?_
    refine ct_callS (av := [.long k, .long 4]) (rest := [.long 0]) (wr := [(hm, .inr (1, [.ref a, .ref b, .ref qa, .ref qu, .ref qb, .ref qh, .ref qm])), (qu, .inl (cJ, 8, .inr (.inl (f8 65536 0 65536 36195 36195 65536 0 65536))))]) (n := 2) (c_floorMod l D cI cB cJ qQ k 4 (by decide)) hx hb hml hown hts (amb_ok qQ) hK hP hD hS hA hM (gi_S gw_648 gw_275 gw_35 gw_276) rfl (by decide +kernel) ⟨by omega, by omega⟩ [] [0, 1] rfl rfl rfl rfl (by decide) rfl hl.1 rfl (Nat.le_of_ble_eq_true rfl) d_M_quarter_78 ⟨by omega, by omega⟩ (fun u_28 H locs hok hP hD hS => ?_)
    have hP : va_P D cl [(hm, .inr (1, [.ref a, .ref b, .ref qa, .ref qu, .ref qb, .ref qh, .ref qm])), (qu, .inl (cJ, 8, .inr (.inl (f8 65536 0 65536 36195 36195 65536 0 65536))))] H := hP
    have hD : va_D A [(hm, .inr (1, [.ref a, .ref b, .ref qa, .ref qu, .ref qb, .ref qh, .ref qm])), (qu, .inl (cJ, 8, .inr (.inl (f8 65536 0 65536 36195 36195 65536 0 65536))))] := hD
    refine W.eq (g2 := F0 m 81 ls [.long (fmd k 4), .long 0]) rfl ?_
    refine tp_l (3) (h_) ?_
    refine W.lcmp hx hb d_M_quarter_81 ?_
    refine lc_ge (tgt := 144) hx hb d_M_quarter_82 (by decide) (fun c_29 => ?_) (fun c_29 => ?_)
    · exact absurd c_29 (by decide)
    refine lv_iconst (v := 0) hx hb d_M_quarter_85 (by decide) ?_
    refine lv_istore (lv' := [(4, .int 0), (3, .int 0), (0, .ref hm), (1, .long k)]) hx hb d_M_quarter_86 hl (by decide) rfl (fun ls hl => ?_)
    refine lv_iload hx hb d_M_quarter_88 (lv_at hl 0 rfl) ?_
    refine lv_bipush (v := 8) hx hb d_M_quarter_90 (by decide) ?_
    refine bn_ge (a1 := 0) (b1 := 8) (tgt := 138) hx hb (by omega) (by omega) d_M_quarter_92 (by decide) (fun c_30 => ?_) (fun c_30 => ?_)
    · exact absurd c_30 (by decide)
    refine lv_aload_n hx hb d_M_quarter_95 rfl (lv_at hl 2 rfl) ?_
    refine va_get (D := D) (ci := 1) (v := .ref qu) (C := R_M) (T := T_M) (N := 7) hx hb hts (ui_M _) hown hK hP 0 rfl rfl 3 (by decide) (hts _ (gwc gw_531)) (fun _ h9 => h9) rfl d_M_quarter_96 ?_
    refine lv_iload hx hb d_M_quarter_99 (lv_at hl 0 rfl) ?_
    refine ld_l hx hb hK hP 1 2 rfl rfl 0 (by omega) (by omega) d_M_quarter_101 ?_
    refine tp_l (65536) (rfl) ?_
    refine lv_lstore (lv' := [(5, .long 65536), (4, .int 0), (3, .int 0), (0, .ref hm), (1, .long k)]) hx hb d_M_quarter_102 hl (by decide) rfl (fun ls hl => ?_)
    refine lv_aload_n hx hb d_M_quarter_104 rfl (lv_at hl 3 rfl) ?_
    refine va_get (D := D) (ci := 1) (v := .ref qu) (C := R_M) (T := T_M) (N := 7) hx hb hts (ui_M _) hown hK hP 0 rfl rfl 3 (by decide) (hts _ (gwc gw_531)) (fun _ h9 => h9) rfl d_M_quarter_105 ?_
    refine lv_iload hx hb d_M_quarter_108 (lv_at hl 1 rfl) ?_
    refine lv_aload_n hx hb d_M_quarter_110 rfl (lv_at hl 3 rfl) ?_
    refine va_get (D := D) (ci := 1) (v := .ref qu) (C := R_M) (T := T_M) (N := 7) hx hb hts (ui_M _) hown hK hP 0 rfl rfl 3 (by decide) (hts _ (gwc gw_531)) (fun _ h9 => h9) rfl d_M_quarter_111 ?_
    refine lv_iload hx hb d_M_quarter_114 (lv_at hl 1 rfl) ?_
    refine lv_iconst (v := 1) hx hb d_M_quarter_116 (by decide) ?_
    refine lv_iadd hx hb d_M_quarter_117 ?_
    refine tp_i (1) (by decide) ?_
    refine ld_l hx hb hK hP 1 2 rfl rfl 1 (by omega) (by omega) d_M_quarter_118 ?_
    refine tp_l (0) (rfl) ?_
    refine lv_lneg hx hb d_M_quarter_119 ?_
    refine st_l hx hb hK hP hD hS 1 2 rfl rfl 0 (by omega) (by omega) d_M_quarter_120 (fun H locs hP hD hS => ?_)
    have hP : va_P D cl [(hm, .inr (1, [.ref a, .ref b, .ref qa, .ref qu, .ref qb, .ref qh, .ref qm])), (qu, .inl (cJ, 8, .inr (.inl (f8 (-0) 0 65536 36195 36195 65536 0 65536))))] H := by rw [← f8_0]; exact hP
    have hD : va_D A [(hm, .inr (1, [.ref a, .ref b, .ref qa, .ref qu, .ref qb, .ref qh, .ref qm])), (qu, .inl (cJ, 8, .inr (.inl (f8 (-0) 0 65536 36195 36195 65536 0 65536))))] := by rw [← f8_0]; exact hD
    refine lv_aload_n hx hb d_M_quarter_121 rfl (lv_at hl 3 rfl) ?_
    refine va_get (D := D) (ci := 1) (v := .ref qu) (C := R_M) (T := T_M) (N := 7) hx hb hts (ui_M _) hown hK hP 0 rfl rfl 3 (by decide) (hts _ (gwc gw_531)) (fun _ h9 => h9) rfl d_M_quarter_122 ?_
    refine lv_iload hx hb d_M_quarter_125 (lv_at hl 1 rfl) ?_
    refine lv_iconst (v := 1) hx hb d_M_quarter_127 (by decide) ?_
    refine lv_iadd hx hb d_M_quarter_128 ?_
    refine tp_i (1) (by decide) ?_
    refine lv_lload hx hb d_M_quarter_129 (lv_at hl 0 rfl) ?_
    refine st_l hx hb hK hP hD hS 1 2 rfl rfl 1 (by omega) (by omega) d_M_quarter_131 (fun H locs hP hD hS => ?_)
    have hP : va_P D cl [(hm, .inr (1, [.ref a, .ref b, .ref qa, .ref qu, .ref qb, .ref qh, .ref qm])), (qu, .inl (cJ, 8, .inr (.inl (f8 (-0) 65536 65536 36195 36195 65536 0 65536))))] H := by rw [← f8_1]; exact hP
    have hD : va_D A [(hm, .inr (1, [.ref a, .ref b, .ref qa, .ref qu, .ref qb, .ref qh, .ref qm])), (qu, .inl (cJ, 8, .inr (.inl (f8 (-0) 65536 65536 36195 36195 65536 0 65536))))] := by rw [← f8_1]; exact hD
    refine lv_iinc (v := 2) (lv' := [(4, .int 2), (5, .long 65536), (3, .int 0), (0, .ref hm), (1, .long k)]) hx hb d_M_quarter_132 hl (k := 1) rfl (by first | exact nI_add _ 2 | rfl | decide) (by decide) rfl (fun ls hl => ?_)
    refine lv_goto (tgt := 88) hx hb d_M_quarter_135 (by decide) ?_
    refine lv_iload hx hb d_M_quarter_88 (lv_at hl 0 rfl) ?_
    refine lv_bipush (v := 8) hx hb d_M_quarter_90 (by decide) ?_
    refine bn_ge (a1 := 2) (b1 := 8) (tgt := 138) hx hb (by omega) (by omega) d_M_quarter_92 (by decide) (fun c_31 => ?_) (fun c_31 => ?_)
    · exact absurd c_31 (by decide)
    refine lv_aload_n hx hb d_M_quarter_95 rfl (lv_at hl 3 rfl) ?_
    refine va_get (D := D) (ci := 1) (v := .ref qu) (C := R_M) (T := T_M) (N := 7) hx hb hts (ui_M _) hown hK hP 0 rfl rfl 3 (by decide) (hts _ (gwc gw_531)) (fun _ h9 => h9) rfl d_M_quarter_96 ?_
    refine lv_iload hx hb d_M_quarter_99 (lv_at hl 0 rfl) ?_
    refine ld_l hx hb hK hP 1 2 rfl rfl 2 (by omega) (by omega) d_M_quarter_101 ?_
    refine tp_l (65536) (rfl) ?_
    refine lv_lstore (lv' := [(5, .long 65536), (4, .int 2), (3, .int 0), (0, .ref hm), (1, .long k)]) hx hb d_M_quarter_102 hl (by decide) rfl (fun ls hl => ?_)
    refine lv_aload_n hx hb d_M_quarter_104 rfl (lv_at hl 3 rfl) ?_
    refine va_get (D := D) (ci := 1) (v := .ref qu) (C := R_M) (T := T_M) (N := 7) hx hb hts (ui_M _) hown hK hP 0 rfl rfl 3 (by decide) (hts _ (gwc gw_531)) (fun _ h9 => h9) rfl d_M_quarter_105 ?_
    refine lv_iload hx hb d_M_quarter_108 (lv_at hl 1 rfl) ?_
    refine lv_aload_n hx hb d_M_quarter_110 rfl (lv_at hl 3 rfl) ?_
    refine va_get (D := D) (ci := 1) (v := .ref qu) (C := R_M) (T := T_M) (N := 7) hx hb hts (ui_M _) hown hK hP 0 rfl rfl 3 (by decide) (hts _ (gwc gw_531)) (fun _ h9 => h9) rfl d_M_quarter_111 ?_
    refine lv_iload hx hb d_M_quarter_114 (lv_at hl 1 rfl) ?_
    refine lv_iconst (v := 1) hx hb d_M_quarter_116 (by decide) ?_
    refine lv_iadd hx hb d_M_quarter_117 ?_
    refine tp_i (3) (by decide) ?_
    refine ld_l hx hb hK hP 1 2 rfl rfl 3 (by omega) (by omega) d_M_quarter_118 ?_
    refine tp_l (36195) (rfl) ?_
    refine lv_lneg hx hb d_M_quarter_119 ?_
    refine st_l hx hb hK hP hD hS 1 2 rfl rfl 2 (by omega) (by omega) d_M_quarter_120 (fun H locs hP hD hS => ?_)
    have hP : va_P D cl [(hm, .inr (1, [.ref a, .ref b, .ref qa, .ref qu, .ref qb, .ref qh, .ref qm])), (qu, .inl (cJ, 8, .inr (.inl (f8 (-0) 65536 (-36195) 36195 36195 65536 0 65536))))] H := by rw [← f8_2]; exact hP
    have hD : va_D A [(hm, .inr (1, [.ref a, .ref b, .ref qa, .ref qu, .ref qb, .ref qh, .ref qm])), (qu, .inl (cJ, 8, .inr (.inl (f8 (-0) 65536 (-36195) 36195 36195 65536 0 65536))))] := by rw [← f8_2]; exact hD
    refine lv_aload_n hx hb d_M_quarter_121 rfl (lv_at hl 3 rfl) ?_
    refine va_get (D := D) (ci := 1) (v := .ref qu) (C := R_M) (T := T_M) (N := 7) hx hb hts (ui_M _) hown hK hP 0 rfl rfl 3 (by decide) (hts _ (gwc gw_531)) (fun _ h9 => h9) rfl d_M_quarter_122 ?_
    refine lv_iload hx hb d_M_quarter_125 (lv_at hl 1 rfl) ?_
    refine lv_iconst (v := 1) hx hb d_M_quarter_127 (by decide) ?_
    refine lv_iadd hx hb d_M_quarter_128 ?_
    refine tp_i (3) (by decide) ?_
    refine lv_lload hx hb d_M_quarter_129 (lv_at hl 0 rfl) ?_
    refine st_l hx hb hK hP hD hS 1 2 rfl rfl 3 (by omega) (by omega) d_M_quarter_131 (fun H locs hP hD hS => ?_)
    have hP : va_P D cl [(hm, .inr (1, [.ref a, .ref b, .ref qa, .ref qu, .ref qb, .ref qh, .ref qm])), (qu, .inl (cJ, 8, .inr (.inl (f8 (-0) 65536 (-36195) 65536 36195 65536 0 65536))))] H := by rw [← f8_3]; exact hP
    have hD : va_D A [(hm, .inr (1, [.ref a, .ref b, .ref qa, .ref qu, .ref qb, .ref qh, .ref qm])), (qu, .inl (cJ, 8, .inr (.inl (f8 (-0) 65536 (-36195) 65536 36195 65536 0 65536))))] := by rw [← f8_3]; exact hD
    refine lv_iinc (v := 4) (lv' := [(4, .int 4), (5, .long 65536), (3, .int 0), (0, .ref hm), (1, .long k)]) hx hb d_M_quarter_132 hl (k := 1) rfl (by first | exact nI_add _ 2 | rfl | decide) (by decide) rfl (fun ls hl => ?_)
    refine lv_goto (tgt := 88) hx hb d_M_quarter_135 (by decide) ?_
    refine lv_iload hx hb d_M_quarter_88 (lv_at hl 0 rfl) ?_
    refine lv_bipush (v := 8) hx hb d_M_quarter_90 (by decide) ?_
    refine bn_ge (a1 := 4) (b1 := 8) (tgt := 138) hx hb (by omega) (by omega) d_M_quarter_92 (by decide) (fun c_32 => ?_) (fun c_32 => ?_)
    · exact absurd c_32 (by decide)
    refine lv_aload_n hx hb d_M_quarter_95 rfl (lv_at hl 3 rfl) ?_
    refine va_get (D := D) (ci := 1) (v := .ref qu) (C := R_M) (T := T_M) (N := 7) hx hb hts (ui_M _) hown hK hP 0 rfl rfl 3 (by decide) (hts _ (gwc gw_531)) (fun _ h9 => h9) rfl d_M_quarter_96 ?_
    refine lv_iload hx hb d_M_quarter_99 (lv_at hl 0 rfl) ?_
    refine ld_l hx hb hK hP 1 2 rfl rfl 4 (by omega) (by omega) d_M_quarter_101 ?_
    refine tp_l (36195) (rfl) ?_
    refine lv_lstore (lv' := [(5, .long 36195), (4, .int 4), (3, .int 0), (0, .ref hm), (1, .long k)]) hx hb d_M_quarter_102 hl (by decide) rfl (fun ls hl => ?_)
    refine lv_aload_n hx hb d_M_quarter_104 rfl (lv_at hl 3 rfl) ?_
    refine va_get (D := D) (ci := 1) (v := .ref qu) (C := R_M) (T := T_M) (N := 7) hx hb hts (ui_M _) hown hK hP 0 rfl rfl 3 (by decide) (hts _ (gwc gw_531)) (fun _ h9 => h9) rfl d_M_quarter_105 ?_
    refine lv_iload hx hb d_M_quarter_108 (lv_at hl 1 rfl) ?_
    refine lv_aload_n hx hb d_M_quarter_110 rfl (lv_at hl 3 rfl) ?_
    refine va_get (D := D) (ci := 1) (v := .ref qu) (C := R_M) (T := T_M) (N := 7) hx hb hts (ui_M _) hown hK hP 0 rfl rfl 3 (by decide) (hts _ (gwc gw_531)) (fun _ h9 => h9) rfl d_M_quarter_111 ?_
    refine lv_iload hx hb d_M_quarter_114 (lv_at hl 1 rfl) ?_
    refine lv_iconst (v := 1) hx hb d_M_quarter_116 (by decide) ?_
    refine lv_iadd hx hb d_M_quarter_117 ?_
    refine tp_i (5) (by decide) ?_
    refine ld_l hx hb hK hP 1 2 rfl rfl 5 (by omega) (by omega) d_M_quarter_118 ?_
    refine tp_l (65536) (rfl) ?_
    refine lv_lneg hx hb d_M_quarter_119 ?_
    refine st_l hx hb hK hP hD hS 1 2 rfl rfl 4 (by omega) (by omega) d_M_quarter_120 (fun H locs hP hD hS => ?_)
    have hP : va_P D cl [(hm, .inr (1, [.ref a, .ref b, .ref qa, .ref qu, .ref qb, .ref qh, .ref qm])), (qu, .inl (cJ, 8, .inr (.inl (f8 (-0) 65536 (-36195) 65536 (-65536) 65536 0 65536))))] H := by rw [← f8_4]; exact hP
    have hD : va_D A [(hm, .inr (1, [.ref a, .ref b, .ref qa, .ref qu, .ref qb, .ref qh, .ref qm])), (qu, .inl (cJ, 8, .inr (.inl (f8 (-0) 65536 (-36195) 65536 (-65536) 65536 0 65536))))] := by rw [← f8_4]; exact hD
    refine lv_aload_n hx hb d_M_quarter_121 rfl (lv_at hl 3 rfl) ?_
    refine va_get (D := D) (ci := 1) (v := .ref qu) (C := R_M) (T := T_M) (N := 7) hx hb hts (ui_M _) hown hK hP 0 rfl rfl 3 (by decide) (hts _ (gwc gw_531)) (fun _ h9 => h9) rfl d_M_quarter_122 ?_
    refine lv_iload hx hb d_M_quarter_125 (lv_at hl 1 rfl) ?_
    refine lv_iconst (v := 1) hx hb d_M_quarter_127 (by decide) ?_
    refine lv_iadd hx hb d_M_quarter_128 ?_
    refine tp_i (5) (by decide) ?_
    refine lv_lload hx hb d_M_quarter_129 (lv_at hl 0 rfl) ?_
    refine st_l hx hb hK hP hD hS 1 2 rfl rfl 5 (by omega) (by omega) d_M_quarter_131 (fun H locs hP hD hS => ?_)
    have hP : va_P D cl [(hm, .inr (1, [.ref a, .ref b, .ref qa, .ref qu, .ref qb, .ref qh, .ref qm])), (qu, .inl (cJ, 8, .inr (.inl (f8 (-0) 65536 (-36195) 65536 (-65536) 36195 0 65536))))] H := by rw [← f8_5]; exact hP
    have hD : va_D A [(hm, .inr (1, [.ref a, .ref b, .ref qa, .ref qu, .ref qb, .ref qh, .ref qm])), (qu, .inl (cJ, 8, .inr (.inl (f8 (-0) 65536 (-36195) 65536 (-65536) 36195 0 65536))))] := by rw [← f8_5]; exact hD
    refine lv_iinc (v := 6) (lv' := [(4, .int 6), (5, .long 36195), (3, .int 0), (0, .ref hm), (1, .long k)]) hx hb d_M_quarter_132 hl (k := 1) rfl (by first | exact nI_add _ 2 | rfl | decide) (by decide) rfl (fun ls hl => ?_)
    refine lv_goto (tgt := 88) hx hb d_M_quarter_135 (by decide) ?_
    refine lv_iload hx hb d_M_quarter_88 (lv_at hl 0 rfl) ?_
    refine lv_bipush (v := 8) hx hb d_M_quarter_90 (by decide) ?_
    refine bn_ge (a1 := 6) (b1 := 8) (tgt := 138) hx hb (by omega) (by omega) d_M_quarter_92 (by decide) (fun c_33 => ?_) (fun c_33 => ?_)
    · exact absurd c_33 (by decide)
    refine lv_aload_n hx hb d_M_quarter_95 rfl (lv_at hl 3 rfl) ?_
    refine va_get (D := D) (ci := 1) (v := .ref qu) (C := R_M) (T := T_M) (N := 7) hx hb hts (ui_M _) hown hK hP 0 rfl rfl 3 (by decide) (hts _ (gwc gw_531)) (fun _ h9 => h9) rfl d_M_quarter_96 ?_
    refine lv_iload hx hb d_M_quarter_99 (lv_at hl 0 rfl) ?_
    refine ld_l hx hb hK hP 1 2 rfl rfl 6 (by omega) (by omega) d_M_quarter_101 ?_
    refine tp_l (0) (rfl) ?_
    refine lv_lstore (lv' := [(5, .long 0), (4, .int 6), (3, .int 0), (0, .ref hm), (1, .long k)]) hx hb d_M_quarter_102 hl (by decide) rfl (fun ls hl => ?_)
    refine lv_aload_n hx hb d_M_quarter_104 rfl (lv_at hl 3 rfl) ?_
    refine va_get (D := D) (ci := 1) (v := .ref qu) (C := R_M) (T := T_M) (N := 7) hx hb hts (ui_M _) hown hK hP 0 rfl rfl 3 (by decide) (hts _ (gwc gw_531)) (fun _ h9 => h9) rfl d_M_quarter_105 ?_
    refine lv_iload hx hb d_M_quarter_108 (lv_at hl 1 rfl) ?_
    refine lv_aload_n hx hb d_M_quarter_110 rfl (lv_at hl 3 rfl) ?_
    refine va_get (D := D) (ci := 1) (v := .ref qu) (C := R_M) (T := T_M) (N := 7) hx hb hts (ui_M _) hown hK hP 0 rfl rfl 3 (by decide) (hts _ (gwc gw_531)) (fun _ h9 => h9) rfl d_M_quarter_111 ?_
    refine lv_iload hx hb d_M_quarter_114 (lv_at hl 1 rfl) ?_
    refine lv_iconst (v := 1) hx hb d_M_quarter_116 (by decide) ?_
    refine lv_iadd hx hb d_M_quarter_117 ?_
    refine tp_i (7) (by decide) ?_
    refine ld_l hx hb hK hP 1 2 rfl rfl 7 (by omega) (by omega) d_M_quarter_118 ?_
    refine tp_l (65536) (rfl) ?_
    refine lv_lneg hx hb d_M_quarter_119 ?_
    refine st_l hx hb hK hP hD hS 1 2 rfl rfl 6 (by omega) (by omega) d_M_quarter_120 (fun H locs hP hD hS => ?_)
    have hP : va_P D cl [(hm, .inr (1, [.ref a, .ref b, .ref qa, .ref qu, .ref qb, .ref qh, .ref qm])), (qu, .inl (cJ, 8, .inr (.inl (f8 (-0) 65536 (-36195) 65536 (-65536) 36195 (-65536) 65536))))] H := by rw [← f8_6]; exact hP
    have hD : va_D A [(hm, .inr (1, [.ref a, .ref b, .ref qa, .ref qu, .ref qb, .ref qh, .ref qm])), (qu, .inl (cJ, 8, .inr (.inl (f8 (-0) 65536 (-36195) 65536 (-65536) 36195 (-65536) 65536))))] := by rw [← f8_6]; exact hD
    refine lv_aload_n hx hb d_M_quarter_121 rfl (lv_at hl 3 rfl) ?_
    refine va_get (D := D) (ci := 1) (v := .ref qu) (C := R_M) (T := T_M) (N := 7) hx hb hts (ui_M _) hown hK hP 0 rfl rfl 3 (by decide) (hts _ (gwc gw_531)) (fun _ h9 => h9) rfl d_M_quarter_122 ?_
    refine lv_iload hx hb d_M_quarter_125 (lv_at hl 1 rfl) ?_
    refine lv_iconst (v := 1) hx hb d_M_quarter_127 (by decide) ?_
    refine lv_iadd hx hb d_M_quarter_128 ?_
    refine tp_i (7) (by decide) ?_
    refine lv_lload hx hb d_M_quarter_129 (lv_at hl 0 rfl) ?_
    refine st_l hx hb hK hP hD hS 1 2 rfl rfl 7 (by omega) (by omega) d_M_quarter_131 (fun H locs hP hD hS => ?_)
    have hP : va_P D cl [(hm, .inr (1, [.ref a, .ref b, .ref qa, .ref qu, .ref qb, .ref qh, .ref qm])), (qu, .inl (cJ, 8, .inr (.inl (f8 (-0) 65536 (-36195) 65536 (-65536) 36195 (-65536) 0))))] H := by rw [← f8_7]; exact hP
    have hD : va_D A [(hm, .inr (1, [.ref a, .ref b, .ref qa, .ref qu, .ref qb, .ref qh, .ref qm])), (qu, .inl (cJ, 8, .inr (.inl (f8 (-0) 65536 (-36195) 65536 (-65536) 36195 (-65536) 0))))] := by rw [← f8_7]; exact hD
    refine lv_iinc (v := 8) (lv' := [(4, .int 8), (5, .long 0), (3, .int 0), (0, .ref hm), (1, .long k)]) hx hb d_M_quarter_132 hl (k := 1) rfl (by first | exact nI_add _ 2 | rfl | decide) (by decide) rfl (fun ls hl => ?_)
    refine lv_goto (tgt := 88) hx hb d_M_quarter_135 (by decide) ?_
    refine lv_iload hx hb d_M_quarter_88 (lv_at hl 0 rfl) ?_
    refine lv_bipush (v := 8) hx hb d_M_quarter_90 (by decide) ?_
    refine bn_ge (a1 := 8) (b1 := 8) (tgt := 138) hx hb (by omega) (by omega) d_M_quarter_92 (by decide) (fun c_34 => ?_) (fun c_34 => ?_)
    rotate_left
    · exact absurd c_34 (by decide)
    refine lv_iinc (v := 1) (lv' := [(3, .int 1), (4, .int 8), (5, .long 0), (0, .ref hm), (1, .long k)]) hx hb d_M_quarter_138 hl (k := 2) rfl (by first | exact nI_add _ 1 | rfl | decide) (by decide) rfl (fun ls hl => ?_)
    refine lv_goto (tgt := 72) hx hb d_M_quarter_141 (by decide) ?_
    refine lv_iload_n hx hb d_M_quarter_72 rfl (lv_at hl 0 rfl) ?_
    refine lv_i2l (v := 1) hx hb d_M_quarter_73 (by decide) ?_
    refine lv_lload_n hx hb d_M_quarter_74 rfl (lv_at hl 4 rfl) ?_
    refine lv_ldc2 (v := 4) hx hb hown (hts _ (gwc gw_660)) d_M_quarter_75 ?_
    refine ct_callS (av := [.long k, .long 4]) (rest := [.long 1]) (wr := [(hm, .inr (1, [.ref a, .ref b, .ref qa, .ref qu, .ref qb, .ref qh, .ref qm])), (qu, .inl (cJ, 8, .inr (.inl (f8 (-0) 65536 (-36195) 65536 (-65536) 36195 (-65536) 0))))]) (n := 2) (c_floorMod l D cI cB cJ qQ k 4 (by decide)) hx hb hml hown hts (amb_ok qQ) hK hP hD hS hA hM (gi_S gw_648 gw_275 gw_35 gw_276) rfl (by decide +kernel) ⟨by omega, by omega⟩ [] [0, 1] rfl rfl rfl rfl (by decide) rfl hl.1 rfl (Nat.le_of_ble_eq_true rfl) d_M_quarter_78 ⟨by omega, by omega⟩ (fun u_35 H locs hok hP hD hS => ?_)
    have hP : va_P D cl [(hm, .inr (1, [.ref a, .ref b, .ref qa, .ref qu, .ref qb, .ref qh, .ref qm])), (qu, .inl (cJ, 8, .inr (.inl (f8 (-0) 65536 (-36195) 65536 (-65536) 36195 (-65536) 0))))] H := hP
    have hD : va_D A [(hm, .inr (1, [.ref a, .ref b, .ref qa, .ref qu, .ref qb, .ref qh, .ref qm])), (qu, .inl (cJ, 8, .inr (.inl (f8 (-0) 65536 (-36195) 65536 (-65536) 36195 (-65536) 0))))] := hD
    refine W.eq (g2 := F0 m 81 ls [.long (fmd k 4), .long 1]) rfl ?_
    refine tp_l (3) (h_) ?_
    refine W.lcmp hx hb d_M_quarter_81 ?_
    refine lc_ge (tgt := 144) hx hb d_M_quarter_82 (by decide) (fun c_36 => ?_) (fun c_36 => ?_)
    · exact absurd c_36 (by decide)
    refine lv_iconst (v := 0) hx hb d_M_quarter_85 (by decide) ?_
    refine lv_istore (lv' := [(4, .int 0), (3, .int 1), (5, .long 0), (0, .ref hm), (1, .long k)]) hx hb d_M_quarter_86 hl (by decide) rfl (fun ls hl => ?_)
    refine lv_iload hx hb d_M_quarter_88 (lv_at hl 0 rfl) ?_
    refine lv_bipush (v := 8) hx hb d_M_quarter_90 (by decide) ?_
    refine bn_ge (a1 := 0) (b1 := 8) (tgt := 138) hx hb (by omega) (by omega) d_M_quarter_92 (by decide) (fun c_37 => ?_) (fun c_37 => ?_)
    · exact absurd c_37 (by decide)
    refine lv_aload_n hx hb d_M_quarter_95 rfl (lv_at hl 3 rfl) ?_
    refine va_get (D := D) (ci := 1) (v := .ref qu) (C := R_M) (T := T_M) (N := 7) hx hb hts (ui_M _) hown hK hP 0 rfl rfl 3 (by decide) (hts _ (gwc gw_531)) (fun _ h9 => h9) rfl d_M_quarter_96 ?_
    refine lv_iload hx hb d_M_quarter_99 (lv_at hl 0 rfl) ?_
    refine ld_l hx hb hK hP 1 2 rfl rfl 0 (by omega) (by omega) d_M_quarter_101 ?_
    refine tp_l (-0) (rfl) ?_
    refine lv_lstore (lv' := [(5, .long (-0)), (4, .int 0), (3, .int 1), (0, .ref hm), (1, .long k)]) hx hb d_M_quarter_102 hl (by decide) rfl (fun ls hl => ?_)
    refine lv_aload_n hx hb d_M_quarter_104 rfl (lv_at hl 3 rfl) ?_
    refine va_get (D := D) (ci := 1) (v := .ref qu) (C := R_M) (T := T_M) (N := 7) hx hb hts (ui_M _) hown hK hP 0 rfl rfl 3 (by decide) (hts _ (gwc gw_531)) (fun _ h9 => h9) rfl d_M_quarter_105 ?_
    refine lv_iload hx hb d_M_quarter_108 (lv_at hl 1 rfl) ?_
    refine lv_aload_n hx hb d_M_quarter_110 rfl (lv_at hl 3 rfl) ?_
    refine va_get (D := D) (ci := 1) (v := .ref qu) (C := R_M) (T := T_M) (N := 7) hx hb hts (ui_M _) hown hK hP 0 rfl rfl 3 (by decide) (hts _ (gwc gw_531)) (fun _ h9 => h9) rfl d_M_quarter_111 ?_
    refine lv_iload hx hb d_M_quarter_114 (lv_at hl 1 rfl) ?_
    refine lv_iconst (v := 1) hx hb d_M_quarter_116 (by decide) ?_
    refine lv_iadd hx hb d_M_quarter_117 ?_
    refine tp_i (1) (by decide) ?_
    refine ld_l hx hb hK hP 1 2 rfl rfl 1 (by omega) (by omega) d_M_quarter_118 ?_
    refine tp_l (65536) (rfl) ?_
    refine lv_lneg hx hb d_M_quarter_119 ?_
    refine st_l hx hb hK hP hD hS 1 2 rfl rfl 0 (by omega) (by omega) d_M_quarter_120 (fun H locs hP hD hS => ?_)
    have hP : va_P D cl [(hm, .inr (1, [.ref a, .ref b, .ref qa, .ref qu, .ref qb, .ref qh, .ref qm])), (qu, .inl (cJ, 8, .inr (.inl (f8 (-65536) 65536 (-36195) 65536 (-65536) 36195 (-65536) 0))))] H := by rw [← f8_0]; exact hP
    have hD : va_D A [(hm, .inr (1, [.ref a, .ref b, .ref qa, .ref qu, .ref qb, .ref qh, .ref qm])), (qu, .inl (cJ, 8, .inr (.inl (f8 (-65536) 65536 (-36195) 65536 (-65536) 36195 (-65536) 0))))] := by rw [← f8_0]; exact hD
    refine lv_aload_n hx hb d_M_quarter_121 rfl (lv_at hl 3 rfl) ?_
    refine va_get (D := D) (ci := 1) (v := .ref qu) (C := R_M) (T := T_M) (N := 7) hx hb hts (ui_M _) hown hK hP 0 rfl rfl 3 (by decide) (hts _ (gwc gw_531)) (fun _ h9 => h9) rfl d_M_quarter_122 ?_
    refine lv_iload hx hb d_M_quarter_125 (lv_at hl 1 rfl) ?_
    refine lv_iconst (v := 1) hx hb d_M_quarter_127 (by decide) ?_
    refine lv_iadd hx hb d_M_quarter_128 ?_
    refine tp_i (1) (by decide) ?_
    refine lv_lload hx hb d_M_quarter_129 (lv_at hl 0 rfl) ?_
    refine st_l hx hb hK hP hD hS 1 2 rfl rfl 1 (by omega) (by omega) d_M_quarter_131 (fun H locs hP hD hS => ?_)
    have hP : va_P D cl [(hm, .inr (1, [.ref a, .ref b, .ref qa, .ref qu, .ref qb, .ref qh, .ref qm])), (qu, .inl (cJ, 8, .inr (.inl (f8 (-65536) (-0) (-36195) 65536 (-65536) 36195 (-65536) 0))))] H := by rw [← f8_1]; exact hP
    have hD : va_D A [(hm, .inr (1, [.ref a, .ref b, .ref qa, .ref qu, .ref qb, .ref qh, .ref qm])), (qu, .inl (cJ, 8, .inr (.inl (f8 (-65536) (-0) (-36195) 65536 (-65536) 36195 (-65536) 0))))] := by rw [← f8_1]; exact hD
    refine lv_iinc (v := 2) (lv' := [(4, .int 2), (5, .long (-0)), (3, .int 1), (0, .ref hm), (1, .long k)]) hx hb d_M_quarter_132 hl (k := 1) rfl (by first | exact nI_add _ 2 | rfl | decide) (by decide) rfl (fun ls hl => ?_)
    refine lv_goto (tgt := 88) hx hb d_M_quarter_135 (by decide) ?_
    refine lv_iload hx hb d_M_quarter_88 (lv_at hl 0 rfl) ?_
    refine lv_bipush (v := 8) hx hb d_M_quarter_90 (by decide) ?_
    refine bn_ge (a1 := 2) (b1 := 8) (tgt := 138) hx hb (by omega) (by omega) d_M_quarter_92 (by decide) (fun c_38 => ?_) (fun c_38 => ?_)
    · exact absurd c_38 (by decide)
    refine lv_aload_n hx hb d_M_quarter_95 rfl (lv_at hl 3 rfl) ?_
    refine va_get (D := D) (ci := 1) (v := .ref qu) (C := R_M) (T := T_M) (N := 7) hx hb hts (ui_M _) hown hK hP 0 rfl rfl 3 (by decide) (hts _ (gwc gw_531)) (fun _ h9 => h9) rfl d_M_quarter_96 ?_
    refine lv_iload hx hb d_M_quarter_99 (lv_at hl 0 rfl) ?_
    refine ld_l hx hb hK hP 1 2 rfl rfl 2 (by omega) (by omega) d_M_quarter_101 ?_
    refine tp_l (-36195) (rfl) ?_
    refine lv_lstore (lv' := [(5, .long (-36195)), (4, .int 2), (3, .int 1), (0, .ref hm), (1, .long k)]) hx hb d_M_quarter_102 hl (by decide) rfl (fun ls hl => ?_)
    refine lv_aload_n hx hb d_M_quarter_104 rfl (lv_at hl 3 rfl) ?_
    refine va_get (D := D) (ci := 1) (v := .ref qu) (C := R_M) (T := T_M) (N := 7) hx hb hts (ui_M _) hown hK hP 0 rfl rfl 3 (by decide) (hts _ (gwc gw_531)) (fun _ h9 => h9) rfl d_M_quarter_105 ?_
    refine lv_iload hx hb d_M_quarter_108 (lv_at hl 1 rfl) ?_
    refine lv_aload_n hx hb d_M_quarter_110 rfl (lv_at hl 3 rfl) ?_
    refine va_get (D := D) (ci := 1) (v := .ref qu) (C := R_M) (T := T_M) (N := 7) hx hb hts (ui_M _) hown hK hP 0 rfl rfl 3 (by decide) (hts _ (gwc gw_531)) (fun _ h9 => h9) rfl d_M_quarter_111 ?_
    refine lv_iload hx hb d_M_quarter_114 (lv_at hl 1 rfl) ?_
    refine lv_iconst (v := 1) hx hb d_M_quarter_116 (by decide) ?_
    refine lv_iadd hx hb d_M_quarter_117 ?_
    refine tp_i (3) (by decide) ?_
    refine ld_l hx hb hK hP 1 2 rfl rfl 3 (by omega) (by omega) d_M_quarter_118 ?_
    refine tp_l (65536) (rfl) ?_
    refine lv_lneg hx hb d_M_quarter_119 ?_
    refine st_l hx hb hK hP hD hS 1 2 rfl rfl 2 (by omega) (by omega) d_M_quarter_120 (fun H locs hP hD hS => ?_)
    have hP : va_P D cl [(hm, .inr (1, [.ref a, .ref b, .ref qa, .ref qu, .ref qb, .ref qh, .ref qm])), (qu, .inl (cJ, 8, .inr (.inl (f8 (-65536) (-0) (-65536) 65536 (-65536) 36195 (-65536) 0))))] H := by rw [← f8_2]; exact hP
    have hD : va_D A [(hm, .inr (1, [.ref a, .ref b, .ref qa, .ref qu, .ref qb, .ref qh, .ref qm])), (qu, .inl (cJ, 8, .inr (.inl (f8 (-65536) (-0) (-65536) 65536 (-65536) 36195 (-65536) 0))))] := by rw [← f8_2]; exact hD
    refine lv_aload_n hx hb d_M_quarter_121 rfl (lv_at hl 3 rfl) ?_
    refine va_get (D := D) (ci := 1) (v := .ref qu) (C := R_M) (T := T_M) (N := 7) hx hb hts (ui_M _) hown hK hP 0 rfl rfl 3 (by decide) (hts _ (gwc gw_531)) (fun _ h9 => h9) rfl d_M_quarter_122 ?_
    refine lv_iload hx hb d_M_quarter_125 (lv_at hl 1 rfl) ?_
    refine lv_iconst (v := 1) hx hb d_M_quarter_127 (by decide) ?_
    refine lv_iadd hx hb d_M_quarter_128 ?_
    refine tp_i (3) (by decide) ?_
    refine lv_lload hx hb d_M_quarter_129 (lv_at hl 0 rfl) ?_
    refine st_l hx hb hK hP hD hS 1 2 rfl rfl 3 (by omega) (by omega) d_M_quarter_131 (fun H locs hP hD hS => ?_)
    have hP : va_P D cl [(hm, .inr (1, [.ref a, .ref b, .ref qa, .ref qu, .ref qb, .ref qh, .ref qm])), (qu, .inl (cJ, 8, .inr (.inl (f8 (-65536) (-0) (-65536) (-36195) (-65536) 36195 (-65536) 0))))] H := by rw [← f8_3]; exact hP
    have hD : va_D A [(hm, .inr (1, [.ref a, .ref b, .ref qa, .ref qu, .ref qb, .ref qh, .ref qm])), (qu, .inl (cJ, 8, .inr (.inl (f8 (-65536) (-0) (-65536) (-36195) (-65536) 36195 (-65536) 0))))] := by rw [← f8_3]; exact hD
    refine lv_iinc (v := 4) (lv' := [(4, .int 4), (5, .long (-36195)), (3, .int 1), (0, .ref hm), (1, .long k)]) hx hb d_M_quarter_132 hl (k := 1) rfl (by first | exact nI_add _ 2 | rfl | decide) (by decide) rfl (fun ls hl => ?_)
    refine lv_goto (tgt := 88) hx hb d_M_quarter_135 (by decide) ?_
    refine lv_iload hx hb d_M_quarter_88 (lv_at hl 0 rfl) ?_
    refine lv_bipush (v := 8) hx hb d_M_quarter_90 (by decide) ?_
    refine bn_ge (a1 := 4) (b1 := 8) (tgt := 138) hx hb (by omega) (by omega) d_M_quarter_92 (by decide) (fun c_39 => ?_) (fun c_39 => ?_)
    · exact absurd c_39 (by decide)
    refine lv_aload_n hx hb d_M_quarter_95 rfl (lv_at hl 3 rfl) ?_
    refine va_get (D := D) (ci := 1) (v := .ref qu) (C := R_M) (T := T_M) (N := 7) hx hb hts (ui_M _) hown hK hP 0 rfl rfl 3 (by decide) (hts _ (gwc gw_531)) (fun _ h9 => h9) rfl d_M_quarter_96 ?_
    refine lv_iload hx hb d_M_quarter_99 (lv_at hl 0 rfl) ?_
    refine ld_l hx hb hK hP 1 2 rfl rfl 4 (by omega) (by omega) d_M_quarter_101 ?_
    refine tp_l (-65536) (rfl) ?_
    refine lv_lstore (lv' := [(5, .long (-65536)), (4, .int 4), (3, .int 1), (0, .ref hm), (1, .long k)]) hx hb d_M_quarter_102 hl (by decide) rfl (fun ls hl => ?_)
    refine lv_aload_n hx hb d_M_quarter_104 rfl (lv_at hl 3 rfl) ?_
    refine va_get (D := D) (ci := 1) (v := .ref qu) (C := R_M) (T := T_M) (N := 7) hx hb hts (ui_M _) hown hK hP 0 rfl rfl 3 (by decide) (hts _ (gwc gw_531)) (fun _ h9 => h9) rfl d_M_quarter_105 ?_
    refine lv_iload hx hb d_M_quarter_108 (lv_at hl 1 rfl) ?_
    refine lv_aload_n hx hb d_M_quarter_110 rfl (lv_at hl 3 rfl) ?_
    refine va_get (D := D) (ci := 1) (v := .ref qu) (C := R_M) (T := T_M) (N := 7) hx hb hts (ui_M _) hown hK hP 0 rfl rfl 3 (by decide) (hts _ (gwc gw_531)) (fun _ h9 => h9) rfl d_M_quarter_111 ?_
    refine lv_iload hx hb d_M_quarter_114 (lv_at hl 1 rfl) ?_
    refine lv_iconst (v := 1) hx hb d_M_quarter_116 (by decide) ?_
    refine lv_iadd hx hb d_M_quarter_117 ?_
    refine tp_i (5) (by decide) ?_
    refine ld_l hx hb hK hP 1 2 rfl rfl 5 (by omega) (by omega) d_M_quarter_118 ?_
    refine tp_l (36195) (rfl) ?_
    refine lv_lneg hx hb d_M_quarter_119 ?_
    refine st_l hx hb hK hP hD hS 1 2 rfl rfl 4 (by omega) (by omega) d_M_quarter_120 (fun H locs hP hD hS => ?_)
    have hP : va_P D cl [(hm, .inr (1, [.ref a, .ref b, .ref qa, .ref qu, .ref qb, .ref qh, .ref qm])), (qu, .inl (cJ, 8, .inr (.inl (f8 (-65536) (-0) (-65536) (-36195) (-36195) 36195 (-65536) 0))))] H := by rw [← f8_4]; exact hP
    have hD : va_D A [(hm, .inr (1, [.ref a, .ref b, .ref qa, .ref qu, .ref qb, .ref qh, .ref qm])), (qu, .inl (cJ, 8, .inr (.inl (f8 (-65536) (-0) (-65536) (-36195) (-36195) 36195 (-65536) 0))))] := by rw [← f8_4]; exact hD
    refine lv_aload_n hx hb d_M_quarter_121 rfl (lv_at hl 3 rfl) ?_
    refine va_get (D := D) (ci := 1) (v := .ref qu) (C := R_M) (T := T_M) (N := 7) hx hb hts (ui_M _) hown hK hP 0 rfl rfl 3 (by decide) (hts _ (gwc gw_531)) (fun _ h9 => h9) rfl d_M_quarter_122 ?_
    refine lv_iload hx hb d_M_quarter_125 (lv_at hl 1 rfl) ?_
    refine lv_iconst (v := 1) hx hb d_M_quarter_127 (by decide) ?_
    refine lv_iadd hx hb d_M_quarter_128 ?_
    refine tp_i (5) (by decide) ?_
    refine lv_lload hx hb d_M_quarter_129 (lv_at hl 0 rfl) ?_
    refine st_l hx hb hK hP hD hS 1 2 rfl rfl 5 (by omega) (by omega) d_M_quarter_131 (fun H locs hP hD hS => ?_)
    have hP : va_P D cl [(hm, .inr (1, [.ref a, .ref b, .ref qa, .ref qu, .ref qb, .ref qh, .ref qm])), (qu, .inl (cJ, 8, .inr (.inl (f8 (-65536) (-0) (-65536) (-36195) (-36195) (-65536) (-65536) 0))))] H := by rw [← f8_5]; exact hP
    have hD : va_D A [(hm, .inr (1, [.ref a, .ref b, .ref qa, .ref qu, .ref qb, .ref qh, .ref qm])), (qu, .inl (cJ, 8, .inr (.inl (f8 (-65536) (-0) (-65536) (-36195) (-36195) (-65536) (-65536) 0))))] := by rw [← f8_5]; exact hD
    refine lv_iinc (v := 6) (lv' := [(4, .int 6), (5, .long (-65536)), (3, .int 1), (0, .ref hm), (1, .long k)]) hx hb d_M_quarter_132 hl (k := 1) rfl (by first | exact nI_add _ 2 | rfl | decide) (by decide) rfl (fun ls hl => ?_)
    refine lv_goto (tgt := 88) hx hb d_M_quarter_135 (by decide) ?_
    refine lv_iload hx hb d_M_quarter_88 (lv_at hl 0 rfl) ?_
    refine lv_bipush (v := 8) hx hb d_M_quarter_90 (by decide) ?_
    refine bn_ge (a1 := 6) (b1 := 8) (tgt := 138) hx hb (by omega) (by omega) d_M_quarter_92 (by decide) (fun c_40 => ?_) (fun c_40 => ?_)
    · exact absurd c_40 (by decide)
    refine lv_aload_n hx hb d_M_quarter_95 rfl (lv_at hl 3 rfl) ?_
    refine va_get (D := D) (ci := 1) (v := .ref qu) (C := R_M) (T := T_M) (N := 7) hx hb hts (ui_M _) hown hK hP 0 rfl rfl 3 (by decide) (hts _ (gwc gw_531)) (fun _ h9 => h9) rfl d_M_quarter_96 ?_
    refine lv_iload hx hb d_M_quarter_99 (lv_at hl 0 rfl) ?_
    refine ld_l hx hb hK hP 1 2 rfl rfl 6 (by omega) (by omega) d_M_quarter_101 ?_
    refine tp_l (-65536) (rfl) ?_
    refine lv_lstore (lv' := [(5, .long (-65536)), (4, .int 6), (3, .int 1), (0, .ref hm), (1, .long k)]) hx hb d_M_quarter_102 hl (by decide) rfl (fun ls hl => ?_)
    refine lv_aload_n hx hb d_M_quarter_104 rfl (lv_at hl 3 rfl) ?_
    refine va_get (D := D) (ci := 1) (v := .ref qu) (C := R_M) (T := T_M) (N := 7) hx hb hts (ui_M _) hown hK hP 0 rfl rfl 3 (by decide) (hts _ (gwc gw_531)) (fun _ h9 => h9) rfl d_M_quarter_105 ?_
    refine lv_iload hx hb d_M_quarter_108 (lv_at hl 1 rfl) ?_
    refine lv_aload_n hx hb d_M_quarter_110 rfl (lv_at hl 3 rfl) ?_
    refine va_get (D := D) (ci := 1) (v := .ref qu) (C := R_M) (T := T_M) (N := 7) hx hb hts (ui_M _) hown hK hP 0 rfl rfl 3 (by decide) (hts _ (gwc gw_531)) (fun _ h9 => h9) rfl d_M_quarter_111 ?_
    refine lv_iload hx hb d_M_quarter_114 (lv_at hl 1 rfl) ?_
    refine lv_iconst (v := 1) hx hb d_M_quarter_116 (by decide) ?_
    refine lv_iadd hx hb d_M_quarter_117 ?_
    refine tp_i (7) (by decide) ?_
    refine ld_l hx hb hK hP 1 2 rfl rfl 7 (by omega) (by omega) d_M_quarter_118 ?_
    refine tp_l (0) (rfl) ?_
    refine lv_lneg hx hb d_M_quarter_119 ?_
    refine st_l hx hb hK hP hD hS 1 2 rfl rfl 6 (by omega) (by omega) d_M_quarter_120 (fun H locs hP hD hS => ?_)
    have hP : va_P D cl [(hm, .inr (1, [.ref a, .ref b, .ref qa, .ref qu, .ref qb, .ref qh, .ref qm])), (qu, .inl (cJ, 8, .inr (.inl (f8 (-65536) (-0) (-65536) (-36195) (-36195) (-65536) (-0) 0))))] H := by rw [← f8_6]; exact hP
    have hD : va_D A [(hm, .inr (1, [.ref a, .ref b, .ref qa, .ref qu, .ref qb, .ref qh, .ref qm])), (qu, .inl (cJ, 8, .inr (.inl (f8 (-65536) (-0) (-65536) (-36195) (-36195) (-65536) (-0) 0))))] := by rw [← f8_6]; exact hD
    refine lv_aload_n hx hb d_M_quarter_121 rfl (lv_at hl 3 rfl) ?_
    refine va_get (D := D) (ci := 1) (v := .ref qu) (C := R_M) (T := T_M) (N := 7) hx hb hts (ui_M _) hown hK hP 0 rfl rfl 3 (by decide) (hts _ (gwc gw_531)) (fun _ h9 => h9) rfl d_M_quarter_122 ?_
    refine lv_iload hx hb d_M_quarter_125 (lv_at hl 1 rfl) ?_
    refine lv_iconst (v := 1) hx hb d_M_quarter_127 (by decide) ?_
    refine lv_iadd hx hb d_M_quarter_128 ?_
    refine tp_i (7) (by decide) ?_
    refine lv_lload hx hb d_M_quarter_129 (lv_at hl 0 rfl) ?_
    refine st_l hx hb hK hP hD hS 1 2 rfl rfl 7 (by omega) (by omega) d_M_quarter_131 (fun H locs hP hD hS => ?_)
    have hP : va_P D cl [(hm, .inr (1, [.ref a, .ref b, .ref qa, .ref qu, .ref qb, .ref qh, .ref qm])), (qu, .inl (cJ, 8, .inr (.inl (f8 (-65536) (-0) (-65536) (-36195) (-36195) (-65536) (-0) (-65536)))))] H := by rw [← f8_7]; exact hP
    have hD : va_D A [(hm, .inr (1, [.ref a, .ref b, .ref qa, .ref qu, .ref qb, .ref qh, .ref qm])), (qu, .inl (cJ, 8, .inr (.inl (f8 (-65536) (-0) (-65536) (-36195) (-36195) (-65536) (-0) (-65536)))))] := by rw [← f8_7]; exact hD
    refine lv_iinc (v := 8) (lv' := [(4, .int 8), (5, .long (-65536)), (3, .int 1), (0, .ref hm), (1, .long k)]) hx hb d_M_quarter_132 hl (k := 1) rfl (by first | exact nI_add _ 2 | rfl | decide) (by decide) rfl (fun ls hl => ?_)
    refine lv_goto (tgt := 88) hx hb d_M_quarter_135 (by decide) ?_
    refine lv_iload hx hb d_M_quarter_88 (lv_at hl 0 rfl) ?_
    refine lv_bipush (v := 8) hx hb d_M_quarter_90 (by decide) ?_
    refine bn_ge (a1 := 8) (b1 := 8) (tgt := 138) hx hb (by omega) (by omega) d_M_quarter_92 (by decide) (fun c_41 => ?_) (fun c_41 => ?_)
    rotate_left
    · exact absurd c_41 (by decide)
    refine lv_iinc (v := 2) (lv' := [(3, .int 2), (4, .int 8), (5, .long (-65536)), (0, .ref hm), (1, .long k)]) hx hb d_M_quarter_138 hl (k := 2) rfl (by first | exact nI_add _ 1 | rfl | decide) (by decide) rfl (fun ls hl => ?_)
    refine lv_goto (tgt := 72) hx hb d_M_quarter_141 (by decide) ?_
    refine lv_iload_n hx hb d_M_quarter_72 rfl (lv_at hl 0 rfl) ?_
    refine lv_i2l (v := 2) hx hb d_M_quarter_73 (by decide) ?_
    refine lv_lload_n hx hb d_M_quarter_74 rfl (lv_at hl 4 rfl) ?_
    refine lv_ldc2 (v := 4) hx hb hown (hts _ (gwc gw_660)) d_M_quarter_75 ?_
    refine ct_callS (av := [.long k, .long 4]) (rest := [.long 2]) (wr := [(hm, .inr (1, [.ref a, .ref b, .ref qa, .ref qu, .ref qb, .ref qh, .ref qm])), (qu, .inl (cJ, 8, .inr (.inl (f8 (-65536) (-0) (-65536) (-36195) (-36195) (-65536) (-0) (-65536)))))]) (n := 2) (c_floorMod l D cI cB cJ qQ k 4 (by decide)) hx hb hml hown hts (amb_ok qQ) hK hP hD hS hA hM (gi_S gw_648 gw_275 gw_35 gw_276) rfl (by decide +kernel) ⟨by omega, by omega⟩ [] [0, 1] rfl rfl rfl rfl (by decide) rfl hl.1 rfl (Nat.le_of_ble_eq_true rfl) d_M_quarter_78 ⟨by omega, by omega⟩ (fun u_42 H locs hok hP hD hS => ?_)
    have hP : va_P D cl [(hm, .inr (1, [.ref a, .ref b, .ref qa, .ref qu, .ref qb, .ref qh, .ref qm])), (qu, .inl (cJ, 8, .inr (.inl (f8 (-65536) (-0) (-65536) (-36195) (-36195) (-65536) (-0) (-65536)))))] H := hP
    have hD : va_D A [(hm, .inr (1, [.ref a, .ref b, .ref qa, .ref qu, .ref qb, .ref qh, .ref qm])), (qu, .inl (cJ, 8, .inr (.inl (f8 (-65536) (-0) (-65536) (-36195) (-36195) (-65536) (-0) (-65536)))))] := hD
    refine W.eq (g2 := F0 m 81 ls [.long (fmd k 4), .long 2]) rfl ?_
    refine tp_l (3) (h_) ?_
    refine W.lcmp hx hb d_M_quarter_81 ?_
    refine lc_ge (tgt := 144) hx hb d_M_quarter_82 (by decide) (fun c_43 => ?_) (fun c_43 => ?_)
    · exact absurd c_43 (by decide)
    refine lv_iconst (v := 0) hx hb d_M_quarter_85 (by decide) ?_
    refine lv_istore (lv' := [(4, .int 0), (3, .int 2), (5, .long (-65536)), (0, .ref hm), (1, .long k)]) hx hb d_M_quarter_86 hl (by decide) rfl (fun ls hl => ?_)
    refine lv_iload hx hb d_M_quarter_88 (lv_at hl 0 rfl) ?_
    refine lv_bipush (v := 8) hx hb d_M_quarter_90 (by decide) ?_
    refine bn_ge (a1 := 0) (b1 := 8) (tgt := 138) hx hb (by omega) (by omega) d_M_quarter_92 (by decide) (fun c_44 => ?_) (fun c_44 => ?_)
    · exact absurd c_44 (by decide)
    refine lv_aload_n hx hb d_M_quarter_95 rfl (lv_at hl 3 rfl) ?_
    refine va_get (D := D) (ci := 1) (v := .ref qu) (C := R_M) (T := T_M) (N := 7) hx hb hts (ui_M _) hown hK hP 0 rfl rfl 3 (by decide) (hts _ (gwc gw_531)) (fun _ h9 => h9) rfl d_M_quarter_96 ?_
    refine lv_iload hx hb d_M_quarter_99 (lv_at hl 0 rfl) ?_
    refine ld_l hx hb hK hP 1 2 rfl rfl 0 (by omega) (by omega) d_M_quarter_101 ?_
    refine tp_l (-65536) (rfl) ?_
    refine lv_lstore (lv' := [(5, .long (-65536)), (4, .int 0), (3, .int 2), (0, .ref hm), (1, .long k)]) hx hb d_M_quarter_102 hl (by decide) rfl (fun ls hl => ?_)
    refine lv_aload_n hx hb d_M_quarter_104 rfl (lv_at hl 3 rfl) ?_
    refine va_get (D := D) (ci := 1) (v := .ref qu) (C := R_M) (T := T_M) (N := 7) hx hb hts (ui_M _) hown hK hP 0 rfl rfl 3 (by decide) (hts _ (gwc gw_531)) (fun _ h9 => h9) rfl d_M_quarter_105 ?_
    refine lv_iload hx hb d_M_quarter_108 (lv_at hl 1 rfl) ?_
    refine lv_aload_n hx hb d_M_quarter_110 rfl (lv_at hl 3 rfl) ?_
    refine va_get (D := D) (ci := 1) (v := .ref qu) (C := R_M) (T := T_M) (N := 7) hx hb hts (ui_M _) hown hK hP 0 rfl rfl 3 (by decide) (hts _ (gwc gw_531)) (fun _ h9 => h9) rfl d_M_quarter_111 ?_
    refine lv_iload hx hb d_M_quarter_114 (lv_at hl 1 rfl) ?_
    refine lv_iconst (v := 1) hx hb d_M_quarter_116 (by decide) ?_
    refine lv_iadd hx hb d_M_quarter_117 ?_
    refine tp_i (1) (by decide) ?_
    refine ld_l hx hb hK hP 1 2 rfl rfl 1 (by omega) (by omega) d_M_quarter_118 ?_
    refine tp_l (-0) (rfl) ?_
    refine lv_lneg hx hb d_M_quarter_119 ?_
    refine st_l hx hb hK hP hD hS 1 2 rfl rfl 0 (by omega) (by omega) d_M_quarter_120 (fun H locs hP hD hS => ?_)
    have hP : va_P D cl [(hm, .inr (1, [.ref a, .ref b, .ref qa, .ref qu, .ref qb, .ref qh, .ref qm])), (qu, .inl (cJ, 8, .inr (.inl (f8 (-(-0)) (-0) (-65536) (-36195) (-36195) (-65536) (-0) (-65536)))))] H := by rw [← f8_0]; exact hP
    have hD : va_D A [(hm, .inr (1, [.ref a, .ref b, .ref qa, .ref qu, .ref qb, .ref qh, .ref qm])), (qu, .inl (cJ, 8, .inr (.inl (f8 (-(-0)) (-0) (-65536) (-36195) (-36195) (-65536) (-0) (-65536)))))] := by rw [← f8_0]; exact hD
    refine lv_aload_n hx hb d_M_quarter_121 rfl (lv_at hl 3 rfl) ?_
    refine va_get (D := D) (ci := 1) (v := .ref qu) (C := R_M) (T := T_M) (N := 7) hx hb hts (ui_M _) hown hK hP 0 rfl rfl 3 (by decide) (hts _ (gwc gw_531)) (fun _ h9 => h9) rfl d_M_quarter_122 ?_
    refine lv_iload hx hb d_M_quarter_125 (lv_at hl 1 rfl) ?_
    refine lv_iconst (v := 1) hx hb d_M_quarter_127 (by decide) ?_
    refine lv_iadd hx hb d_M_quarter_128 ?_
    refine tp_i (1) (by decide) ?_
    refine lv_lload hx hb d_M_quarter_129 (lv_at hl 0 rfl) ?_
    refine st_l hx hb hK hP hD hS 1 2 rfl rfl 1 (by omega) (by omega) d_M_quarter_131 (fun H locs hP hD hS => ?_)
    have hP : va_P D cl [(hm, .inr (1, [.ref a, .ref b, .ref qa, .ref qu, .ref qb, .ref qh, .ref qm])), (qu, .inl (cJ, 8, .inr (.inl (f8 (-(-0)) (-65536) (-65536) (-36195) (-36195) (-65536) (-0) (-65536)))))] H := by rw [← f8_1]; exact hP
    have hD : va_D A [(hm, .inr (1, [.ref a, .ref b, .ref qa, .ref qu, .ref qb, .ref qh, .ref qm])), (qu, .inl (cJ, 8, .inr (.inl (f8 (-(-0)) (-65536) (-65536) (-36195) (-36195) (-65536) (-0) (-65536)))))] := by rw [← f8_1]; exact hD
    refine lv_iinc (v := 2) (lv' := [(4, .int 2), (5, .long (-65536)), (3, .int 2), (0, .ref hm), (1, .long k)]) hx hb d_M_quarter_132 hl (k := 1) rfl (by first | exact nI_add _ 2 | rfl | decide) (by decide) rfl (fun ls hl => ?_)
    refine lv_goto (tgt := 88) hx hb d_M_quarter_135 (by decide) ?_
    refine lv_iload hx hb d_M_quarter_88 (lv_at hl 0 rfl) ?_
    refine lv_bipush (v := 8) hx hb d_M_quarter_90 (by decide) ?_
    refine bn_ge (a1 := 2) (b1 := 8) (tgt := 138) hx hb (by omega) (by omega) d_M_quarter_92 (by decide) (fun c_45 => ?_) (fun c_45 => ?_)
    · exact absurd c_45 (by decide)
    refine lv_aload_n hx hb d_M_quarter_95 rfl (lv_at hl 3 rfl) ?_
    refine va_get (D := D) (ci := 1) (v := .ref qu) (C := R_M) (T := T_M) (N := 7) hx hb hts (ui_M _) hown hK hP 0 rfl rfl 3 (by decide) (hts _ (gwc gw_531)) (fun _ h9 => h9) rfl d_M_quarter_96 ?_
    refine lv_iload hx hb d_M_quarter_99 (lv_at hl 0 rfl) ?_
    refine ld_l hx hb hK hP 1 2 rfl rfl 2 (by omega) (by omega) d_M_quarter_101 ?_
    refine tp_l (-65536) (rfl) ?_
    refine lv_lstore (lv' := [(5, .long (-65536)), (4, .int 2), (3, .int 2), (0, .ref hm), (1, .long k)]) hx hb d_M_quarter_102 hl (by decide) rfl (fun ls hl => ?_)
    refine lv_aload_n hx hb d_M_quarter_104 rfl (lv_at hl 3 rfl) ?_
    refine va_get (D := D) (ci := 1) (v := .ref qu) (C := R_M) (T := T_M) (N := 7) hx hb hts (ui_M _) hown hK hP 0 rfl rfl 3 (by decide) (hts _ (gwc gw_531)) (fun _ h9 => h9) rfl d_M_quarter_105 ?_
    refine lv_iload hx hb d_M_quarter_108 (lv_at hl 1 rfl) ?_
    refine lv_aload_n hx hb d_M_quarter_110 rfl (lv_at hl 3 rfl) ?_
    refine va_get (D := D) (ci := 1) (v := .ref qu) (C := R_M) (T := T_M) (N := 7) hx hb hts (ui_M _) hown hK hP 0 rfl rfl 3 (by decide) (hts _ (gwc gw_531)) (fun _ h9 => h9) rfl d_M_quarter_111 ?_
    refine lv_iload hx hb d_M_quarter_114 (lv_at hl 1 rfl) ?_
    refine lv_iconst (v := 1) hx hb d_M_quarter_116 (by decide) ?_
    refine lv_iadd hx hb d_M_quarter_117 ?_
    refine tp_i (3) (by decide) ?_
    refine ld_l hx hb hK hP 1 2 rfl rfl 3 (by omega) (by omega) d_M_quarter_118 ?_
    refine tp_l (-36195) (rfl) ?_
    refine lv_lneg hx hb d_M_quarter_119 ?_
    refine st_l hx hb hK hP hD hS 1 2 rfl rfl 2 (by omega) (by omega) d_M_quarter_120 (fun H locs hP hD hS => ?_)
    have hP : va_P D cl [(hm, .inr (1, [.ref a, .ref b, .ref qa, .ref qu, .ref qb, .ref qh, .ref qm])), (qu, .inl (cJ, 8, .inr (.inl (f8 (-(-0)) (-65536) (-(-36195)) (-36195) (-36195) (-65536) (-0) (-65536)))))] H := by rw [← f8_2]; exact hP
    have hD : va_D A [(hm, .inr (1, [.ref a, .ref b, .ref qa, .ref qu, .ref qb, .ref qh, .ref qm])), (qu, .inl (cJ, 8, .inr (.inl (f8 (-(-0)) (-65536) (-(-36195)) (-36195) (-36195) (-65536) (-0) (-65536)))))] := by rw [← f8_2]; exact hD
    refine lv_aload_n hx hb d_M_quarter_121 rfl (lv_at hl 3 rfl) ?_
    refine va_get (D := D) (ci := 1) (v := .ref qu) (C := R_M) (T := T_M) (N := 7) hx hb hts (ui_M _) hown hK hP 0 rfl rfl 3 (by decide) (hts _ (gwc gw_531)) (fun _ h9 => h9) rfl d_M_quarter_122 ?_
    refine lv_iload hx hb d_M_quarter_125 (lv_at hl 1 rfl) ?_
    refine lv_iconst (v := 1) hx hb d_M_quarter_127 (by decide) ?_
    refine lv_iadd hx hb d_M_quarter_128 ?_
    refine tp_i (3) (by decide) ?_
    refine lv_lload hx hb d_M_quarter_129 (lv_at hl 0 rfl) ?_
    refine st_l hx hb hK hP hD hS 1 2 rfl rfl 3 (by omega) (by omega) d_M_quarter_131 (fun H locs hP hD hS => ?_)
    have hP : va_P D cl [(hm, .inr (1, [.ref a, .ref b, .ref qa, .ref qu, .ref qb, .ref qh, .ref qm])), (qu, .inl (cJ, 8, .inr (.inl (f8 (-(-0)) (-65536) (-(-36195)) (-65536) (-36195) (-65536) (-0) (-65536)))))] H := by rw [← f8_3]; exact hP
    have hD : va_D A [(hm, .inr (1, [.ref a, .ref b, .ref qa, .ref qu, .ref qb, .ref qh, .ref qm])), (qu, .inl (cJ, 8, .inr (.inl (f8 (-(-0)) (-65536) (-(-36195)) (-65536) (-36195) (-65536) (-0) (-65536)))))] := by rw [← f8_3]; exact hD
    refine lv_iinc (v := 4) (lv' := [(4, .int 4), (5, .long (-65536)), (3, .int 2), (0, .ref hm), (1, .long k)]) hx hb d_M_quarter_132 hl (k := 1) rfl (by first | exact nI_add _ 2 | rfl | decide) (by decide) rfl (fun ls hl => ?_)
    refine lv_goto (tgt := 88) hx hb d_M_quarter_135 (by decide) ?_
    refine lv_iload hx hb d_M_quarter_88 (lv_at hl 0 rfl) ?_
    refine lv_bipush (v := 8) hx hb d_M_quarter_90 (by decide) ?_
    refine bn_ge (a1 := 4) (b1 := 8) (tgt := 138) hx hb (by omega) (by omega) d_M_quarter_92 (by decide) (fun c_46 => ?_) (fun c_46 => ?_)
    · exact absurd c_46 (by decide)
    refine lv_aload_n hx hb d_M_quarter_95 rfl (lv_at hl 3 rfl) ?_
    refine va_get (D := D) (ci := 1) (v := .ref qu) (C := R_M) (T := T_M) (N := 7) hx hb hts (ui_M _) hown hK hP 0 rfl rfl 3 (by decide) (hts _ (gwc gw_531)) (fun _ h9 => h9) rfl d_M_quarter_96 ?_
    refine lv_iload hx hb d_M_quarter_99 (lv_at hl 0 rfl) ?_
    refine ld_l hx hb hK hP 1 2 rfl rfl 4 (by omega) (by omega) d_M_quarter_101 ?_
    refine tp_l (-36195) (rfl) ?_
    refine lv_lstore (lv' := [(5, .long (-36195)), (4, .int 4), (3, .int 2), (0, .ref hm), (1, .long k)]) hx hb d_M_quarter_102 hl (by decide) rfl (fun ls hl => ?_)
    refine lv_aload_n hx hb d_M_quarter_104 rfl (lv_at hl 3 rfl) ?_
    refine va_get (D := D) (ci := 1) (v := .ref qu) (C := R_M) (T := T_M) (N := 7) hx hb hts (ui_M _) hown hK hP 0 rfl rfl 3 (by decide) (hts _ (gwc gw_531)) (fun _ h9 => h9) rfl d_M_quarter_105 ?_
    refine lv_iload hx hb d_M_quarter_108 (lv_at hl 1 rfl) ?_
    refine lv_aload_n hx hb d_M_quarter_110 rfl (lv_at hl 3 rfl) ?_
    refine va_get (D := D) (ci := 1) (v := .ref qu) (C := R_M) (T := T_M) (N := 7) hx hb hts (ui_M _) hown hK hP 0 rfl rfl 3 (by decide) (hts _ (gwc gw_531)) (fun _ h9 => h9) rfl d_M_quarter_111 ?_
    refine lv_iload hx hb d_M_quarter_114 (lv_at hl 1 rfl) ?_
    refine lv_iconst (v := 1) hx hb d_M_quarter_116 (by decide) ?_
    refine lv_iadd hx hb d_M_quarter_117 ?_
    refine tp_i (5) (by decide) ?_
    refine ld_l hx hb hK hP 1 2 rfl rfl 5 (by omega) (by omega) d_M_quarter_118 ?_
    refine tp_l (-65536) (rfl) ?_
    refine lv_lneg hx hb d_M_quarter_119 ?_
    refine st_l hx hb hK hP hD hS 1 2 rfl rfl 4 (by omega) (by omega) d_M_quarter_120 (fun H locs hP hD hS => ?_)
    have hP : va_P D cl [(hm, .inr (1, [.ref a, .ref b, .ref qa, .ref qu, .ref qb, .ref qh, .ref qm])), (qu, .inl (cJ, 8, .inr (.inl (f8 (-(-0)) (-65536) (-(-36195)) (-65536) (-(-65536)) (-65536) (-0) (-65536)))))] H := by rw [← f8_4]; exact hP
    have hD : va_D A [(hm, .inr (1, [.ref a, .ref b, .ref qa, .ref qu, .ref qb, .ref qh, .ref qm])), (qu, .inl (cJ, 8, .inr (.inl (f8 (-(-0)) (-65536) (-(-36195)) (-65536) (-(-65536)) (-65536) (-0) (-65536)))))] := by rw [← f8_4]; exact hD
    refine lv_aload_n hx hb d_M_quarter_121 rfl (lv_at hl 3 rfl) ?_
    refine va_get (D := D) (ci := 1) (v := .ref qu) (C := R_M) (T := T_M) (N := 7) hx hb hts (ui_M _) hown hK hP 0 rfl rfl 3 (by decide) (hts _ (gwc gw_531)) (fun _ h9 => h9) rfl d_M_quarter_122 ?_
    refine lv_iload hx hb d_M_quarter_125 (lv_at hl 1 rfl) ?_
    refine lv_iconst (v := 1) hx hb d_M_quarter_127 (by decide) ?_
    refine lv_iadd hx hb d_M_quarter_128 ?_
    refine tp_i (5) (by decide) ?_
    refine lv_lload hx hb d_M_quarter_129 (lv_at hl 0 rfl) ?_
    refine st_l hx hb hK hP hD hS 1 2 rfl rfl 5 (by omega) (by omega) d_M_quarter_131 (fun H locs hP hD hS => ?_)
    have hP : va_P D cl [(hm, .inr (1, [.ref a, .ref b, .ref qa, .ref qu, .ref qb, .ref qh, .ref qm])), (qu, .inl (cJ, 8, .inr (.inl (f8 (-(-0)) (-65536) (-(-36195)) (-65536) (-(-65536)) (-36195) (-0) (-65536)))))] H := by rw [← f8_5]; exact hP
    have hD : va_D A [(hm, .inr (1, [.ref a, .ref b, .ref qa, .ref qu, .ref qb, .ref qh, .ref qm])), (qu, .inl (cJ, 8, .inr (.inl (f8 (-(-0)) (-65536) (-(-36195)) (-65536) (-(-65536)) (-36195) (-0) (-65536)))))] := by rw [← f8_5]; exact hD
    refine lv_iinc (v := 6) (lv' := [(4, .int 6), (5, .long (-36195)), (3, .int 2), (0, .ref hm), (1, .long k)]) hx hb d_M_quarter_132 hl (k := 1) rfl (by first | exact nI_add _ 2 | rfl | decide) (by decide) rfl (fun ls hl => ?_)
    refine lv_goto (tgt := 88) hx hb d_M_quarter_135 (by decide) ?_
    refine lv_iload hx hb d_M_quarter_88 (lv_at hl 0 rfl) ?_
    refine lv_bipush (v := 8) hx hb d_M_quarter_90 (by decide) ?_
    refine bn_ge (a1 := 6) (b1 := 8) (tgt := 138) hx hb (by omega) (by omega) d_M_quarter_92 (by decide) (fun c_47 => ?_) (fun c_47 => ?_)
    · exact absurd c_47 (by decide)
    refine lv_aload_n hx hb d_M_quarter_95 rfl (lv_at hl 3 rfl) ?_
    refine va_get (D := D) (ci := 1) (v := .ref qu) (C := R_M) (T := T_M) (N := 7) hx hb hts (ui_M _) hown hK hP 0 rfl rfl 3 (by decide) (hts _ (gwc gw_531)) (fun _ h9 => h9) rfl d_M_quarter_96 ?_
    refine lv_iload hx hb d_M_quarter_99 (lv_at hl 0 rfl) ?_
    refine ld_l hx hb hK hP 1 2 rfl rfl 6 (by omega) (by omega) d_M_quarter_101 ?_
    refine tp_l (-0) (rfl) ?_
    refine lv_lstore (lv' := [(5, .long (-0)), (4, .int 6), (3, .int 2), (0, .ref hm), (1, .long k)]) hx hb d_M_quarter_102 hl (by decide) rfl (fun ls hl => ?_)
    refine lv_aload_n hx hb d_M_quarter_104 rfl (lv_at hl 3 rfl) ?_
    refine va_get (D := D) (ci := 1) (v := .ref qu) (C := R_M) (T := T_M) (N := 7) hx hb hts (ui_M _) hown hK hP 0 rfl rfl 3 (by decide) (hts _ (gwc gw_531)) (fun _ h9 => h9) rfl d_M_quarter_105 ?_
    refine lv_iload hx hb d_M_quarter_108 (lv_at hl 1 rfl) ?_
    refine lv_aload_n hx hb d_M_quarter_110 rfl (lv_at hl 3 rfl) ?_
    refine va_get (D := D) (ci := 1) (v := .ref qu) (C := R_M) (T := T_M) (N := 7) hx hb hts (ui_M _) hown hK hP 0 rfl rfl 3 (by decide) (hts _ (gwc gw_531)) (fun _ h9 => h9) rfl d_M_quarter_111 ?_
    refine lv_iload hx hb d_M_quarter_114 (lv_at hl 1 rfl) ?_
    refine lv_iconst (v := 1) hx hb d_M_quarter_116 (by decide) ?_
    refine lv_iadd hx hb d_M_quarter_117 ?_
    refine tp_i (7) (by decide) ?_
    refine ld_l hx hb hK hP 1 2 rfl rfl 7 (by omega) (by omega) d_M_quarter_118 ?_
    refine tp_l (-65536) (rfl) ?_
    refine lv_lneg hx hb d_M_quarter_119 ?_
    refine st_l hx hb hK hP hD hS 1 2 rfl rfl 6 (by omega) (by omega) d_M_quarter_120 (fun H locs hP hD hS => ?_)
    have hP : va_P D cl [(hm, .inr (1, [.ref a, .ref b, .ref qa, .ref qu, .ref qb, .ref qh, .ref qm])), (qu, .inl (cJ, 8, .inr (.inl (f8 (-(-0)) (-65536) (-(-36195)) (-65536) (-(-65536)) (-36195) (-(-65536)) (-65536)))))] H := by rw [← f8_6]; exact hP
    have hD : va_D A [(hm, .inr (1, [.ref a, .ref b, .ref qa, .ref qu, .ref qb, .ref qh, .ref qm])), (qu, .inl (cJ, 8, .inr (.inl (f8 (-(-0)) (-65536) (-(-36195)) (-65536) (-(-65536)) (-36195) (-(-65536)) (-65536)))))] := by rw [← f8_6]; exact hD
    refine lv_aload_n hx hb d_M_quarter_121 rfl (lv_at hl 3 rfl) ?_
    refine va_get (D := D) (ci := 1) (v := .ref qu) (C := R_M) (T := T_M) (N := 7) hx hb hts (ui_M _) hown hK hP 0 rfl rfl 3 (by decide) (hts _ (gwc gw_531)) (fun _ h9 => h9) rfl d_M_quarter_122 ?_
    refine lv_iload hx hb d_M_quarter_125 (lv_at hl 1 rfl) ?_
    refine lv_iconst (v := 1) hx hb d_M_quarter_127 (by decide) ?_
    refine lv_iadd hx hb d_M_quarter_128 ?_
    refine tp_i (7) (by decide) ?_
    refine lv_lload hx hb d_M_quarter_129 (lv_at hl 0 rfl) ?_
    refine st_l hx hb hK hP hD hS 1 2 rfl rfl 7 (by omega) (by omega) d_M_quarter_131 (fun H locs hP hD hS => ?_)
    have hP : va_P D cl [(hm, .inr (1, [.ref a, .ref b, .ref qa, .ref qu, .ref qb, .ref qh, .ref qm])), (qu, .inl (cJ, 8, .inr (.inl (f8 (-(-0)) (-65536) (-(-36195)) (-65536) (-(-65536)) (-36195) (-(-65536)) (-0)))))] H := by rw [← f8_7]; exact hP
    have hD : va_D A [(hm, .inr (1, [.ref a, .ref b, .ref qa, .ref qu, .ref qb, .ref qh, .ref qm])), (qu, .inl (cJ, 8, .inr (.inl (f8 (-(-0)) (-65536) (-(-36195)) (-65536) (-(-65536)) (-36195) (-(-65536)) (-0)))))] := by rw [← f8_7]; exact hD
    refine lv_iinc (v := 8) (lv' := [(4, .int 8), (5, .long (-0)), (3, .int 2), (0, .ref hm), (1, .long k)]) hx hb d_M_quarter_132 hl (k := 1) rfl (by first | exact nI_add _ 2 | rfl | decide) (by decide) rfl (fun ls hl => ?_)
    refine lv_goto (tgt := 88) hx hb d_M_quarter_135 (by decide) ?_
    refine lv_iload hx hb d_M_quarter_88 (lv_at hl 0 rfl) ?_
    refine lv_bipush (v := 8) hx hb d_M_quarter_90 (by decide) ?_
    refine bn_ge (a1 := 8) (b1 := 8) (tgt := 138) hx hb (by omega) (by omega) d_M_quarter_92 (by decide) (fun c_48 => ?_) (fun c_48 => ?_)
    rotate_left
    · exact absurd c_48 (by decide)
    refine lv_iinc (v := 3) (lv' := [(3, .int 3), (4, .int 8), (5, .long (-0)), (0, .ref hm), (1, .long k)]) hx hb d_M_quarter_138 hl (k := 2) rfl (by first | exact nI_add _ 1 | rfl | decide) (by decide) rfl (fun ls hl => ?_)
    refine lv_goto (tgt := 72) hx hb d_M_quarter_141 (by decide) ?_
    refine lv_iload_n hx hb d_M_quarter_72 rfl (lv_at hl 0 rfl) ?_
    refine lv_i2l (v := 3) hx hb d_M_quarter_73 (by decide) ?_
    refine lv_lload_n hx hb d_M_quarter_74 rfl (lv_at hl 4 rfl) ?_
    refine lv_ldc2 (v := 4) hx hb hown (hts _ (gwc gw_660)) d_M_quarter_75 ?_
    refine ct_callS (av := [.long k, .long 4]) (rest := [.long 3]) (wr := [(hm, .inr (1, [.ref a, .ref b, .ref qa, .ref qu, .ref qb, .ref qh, .ref qm])), (qu, .inl (cJ, 8, .inr (.inl (f8 (-(-0)) (-65536) (-(-36195)) (-65536) (-(-65536)) (-36195) (-(-65536)) (-0)))))]) (n := 2) (c_floorMod l D cI cB cJ qQ k 4 (by decide)) hx hb hml hown hts (amb_ok qQ) hK hP hD hS hA hM (gi_S gw_648 gw_275 gw_35 gw_276) rfl (by decide +kernel) ⟨by omega, by omega⟩ [] [0, 1] rfl rfl rfl rfl (by decide) rfl hl.1 rfl (Nat.le_of_ble_eq_true rfl) d_M_quarter_78 ⟨by omega, by omega⟩ (fun u_49 H locs hok hP hD hS => ?_)
    have hP : va_P D cl [(hm, .inr (1, [.ref a, .ref b, .ref qa, .ref qu, .ref qb, .ref qh, .ref qm])), (qu, .inl (cJ, 8, .inr (.inl (f8 (-(-0)) (-65536) (-(-36195)) (-65536) (-(-65536)) (-36195) (-(-65536)) (-0)))))] H := hP
    have hD : va_D A [(hm, .inr (1, [.ref a, .ref b, .ref qa, .ref qu, .ref qb, .ref qh, .ref qm])), (qu, .inl (cJ, 8, .inr (.inl (f8 (-(-0)) (-65536) (-(-36195)) (-65536) (-(-65536)) (-36195) (-(-65536)) (-0)))))] := hD
    refine W.eq (g2 := F0 m 81 ls [.long (fmd k 4), .long 3]) rfl ?_
    refine tp_l (3) (h_) ?_
    refine W.lcmp hx hb d_M_quarter_81 ?_
    refine lc_ge (tgt := 144) hx hb d_M_quarter_82 (by decide) (fun c_50 => ?_) (fun c_50 => ?_)
    rotate_left
    · exact absurd c_50 (by decide)
    exact ct_retv hQ hx hb hr hlocks hP hD hS (-(-0), -65536, -(-36195), -65536, -(-65536), -36195, -(-65536), -0) [(hm, .inr (1, [.ref a, .ref b, .ref qa, .ref qu, .ref qb, .ref qh, .ref qm])), (qu, .inl (cJ, 8, .inr (.inl (f8 (-(-0)) (-65536) (-(-36195)) (-65536) (-(-65536)) (-36195) (-(-65536)) (-0)))))] [0, 1] (rfl) (by rw [h_]; decide) (rfl) rfl rfl (by omega) (by omega) d_M_quarter_144
set_option maxHeartbeats 40000000 in
set_option maxRecDepth 100000 in
/-- part -/
theorem c_M_part (l : Launch) (D : va_G) (cI cB cJ : ClassId) (qQ : Nat) (hm : Nat) (a : Nat) (b : Nat) (qa : Nat) (qu : Nat) (qb : Nat) (qh : Nat) (qm : Nat) (u0 : Int64) (u1 : Int64) (u2 : Int64) (u3 : Int64) (u4 : Int64) (u5 : Int64) (u6 : Int64) (u7 : Int64) (v0 : Int64) (v1 : Int64) (v2 : Int64) (v3 : Int64) (v4 : Int64) (v5 : Int64) (v6 : Int64) (v7 : Int64) (w0 : Int64) (w1 : Int64) (w2 : Int64) (w3 : Int64) (w4 : Int64) (w5 : Int64) (w6 : Int64) (w7 : Int64) (g0 : Int64) (g1 : Int64) (g2 : Int64) (g3 : Int64) (g4 : Int64) (g5 : Int64) (g6 : Int64) (g7 : Int64) (t : Int64)  : ct l D cl [(cI, .int), (cB, .byte), (cJ, .long)] (amb qQ) y_M_part w_M_part 2 50 (0) (0) [.ref hm, .long t] [(hm, .inr (1, [.ref a, .ref b, .ref qa, .ref qu, .ref qb, .ref qh, .ref qm])), (qu, .inl (cJ, 8, .inr (.inl (f8 u0 u1 u2 u3 u4 u5 u6 u7)))), (qb, .inl (cJ, 8, .inr (.inl (f8 v0 v1 v2 v3 v4 v5 v6 v7)))), (qh, .inl (cJ, 8, .inr (.inl (f8 w0 w1 w2 w3 w4 w5 w6 w7)))), (qm, .inl (cJ, 8, .inr (.inl (f8 g0 g1 g2 g3 g4 g5 g6 g7))))] (fun u_ : Int64 × Int64 × Int64 × Int64 × Int64 × Int64 × Int64 × Int64 => match u_ with | (g0', g1', g2', g3', g4', g5', g6', g7') => True) (fun u_ : Int64 × Int64 × Int64 × Int64 × Int64 × Int64 × Int64 × Int64 => match u_ with | (g0', g1', g2', g3', g4', g5', g6', g7') => none) (fun u_ : Int64 × Int64 × Int64 × Int64 × Int64 × Int64 × Int64 × Int64 => match u_ with | (g0', g1', g2', g3', g4', g5', g6', g7') => [(hm, .inr (1, [.ref a, .ref b, .ref qa, .ref qu, .ref qb, .ref qh, .ref qm])), (qu, .inl (cJ, 8, .inr (.inl (f8 u0 u1 u2 u3 u4 u5 u6 u7)))), (qb, .inl (cJ, 8, .inr (.inl (f8 u0 u1 (mixL u0 u2 t) (mixL u1 u3 t) (mx2 u0 u2 u4 t) (mx2 u1 u3 u5 t) (mx3 u0 u2 u4 u6 t) (mx3 u1 u3 u5 u7 t))))), (qh, .inl (cJ, 8, .inr (.inl (f8 (mx3 u0 u2 u4 u6 t) (mx3 u1 u3 u5 u7 t) (mx2 u2 u4 u6 t) (mx2 u3 u5 u7 t) (mixL u4 u6 t) (mixL u5 u7 t) u6 u7)))), (qm, .inl (cJ, 8, .inr (.inl (f8 g0' g1' g2' g3' g4' g5' g6' g7'))))]) := by
  refine ct_ofW (cc := b_M_part) (maxL := 5) (ret := none) (by decide) rfl (Nat.le_of_ble_eq_true rfl) ?_
  intro p e R s m args below meth c A Q ls hx hb hr hml hts hown hlocks hname hRf hRc hRs hRl hQ hK hP hD hS hA hM hl
  have hl : lv_has ls 5 [(0, .ref hm), (1, .long t)] := hl
  refine lv_iconst (v := 0) hx hb d_M_part_0 (by decide) ?_
  refine lv_istore_n (lv' := [(3, .int 0), (0, .ref hm), (1, .long t)]) hx hb d_M_part_1 rfl hl (by decide) rfl (fun ls hl => ?_)
  refine lv_iload_n hx hb d_M_part_2 rfl (lv_at hl 0 rfl) ?_
  refine lv_bipush (v := 8) hx hb d_M_part_3 (by decide) ?_
  refine bn_ge (a1 := 0) (b1 := 8) (tgt := 26) hx hb (by omega) (by omega) d_M_part_5 (by decide) (fun c_1 => ?_) (fun c_1 => ?_)
  · exact absurd c_1 (by decide)
  refine lv_aload_n hx hb d_M_part_8 rfl (lv_at hl 1 rfl) ?_
  refine va_get (D := D) (ci := 1) (v := .ref qm) (C := R_M) (T := T_M) (N := 7) hx hb hts (ui_M _) hown hK hP 0 rfl rfl 6 (by decide) (hts _ (gwc gw_534)) (fun _ h9 => h9) rfl d_M_part_9 ?_
  refine lv_iload_n hx hb d_M_part_12 rfl (lv_at hl 0 rfl) ?_
  refine lv_aload_n hx hb d_M_part_13 rfl (lv_at hl 1 rfl) ?_
  refine va_get (D := D) (ci := 1) (v := .ref qu) (C := R_M) (T := T_M) (N := 7) hx hb hts (ui_M _) hown hK hP 0 rfl rfl 3 (by decide) (hts _ (gwc gw_531)) (fun _ h9 => h9) rfl d_M_part_14 ?_
  refine lv_iload_n hx hb d_M_part_17 rfl (lv_at hl 0 rfl) ?_
  refine ld_l hx hb hK hP 1 2 rfl rfl 0 (by omega) (by omega) d_M_part_18 ?_
  refine tp_l (u0) (rfl) ?_
  refine st_l hx hb hK hP hD hS 4 2 rfl rfl 0 (by omega) (by omega) d_M_part_19 (fun H locs hP hD hS => ?_)
  have hP : va_P D cl [(hm, .inr (1, [.ref a, .ref b, .ref qa, .ref qu, .ref qb, .ref qh, .ref qm])), (qu, .inl (cJ, 8, .inr (.inl (f8 u0 u1 u2 u3 u4 u5 u6 u7)))), (qb, .inl (cJ, 8, .inr (.inl (f8 v0 v1 v2 v3 v4 v5 v6 v7)))), (qh, .inl (cJ, 8, .inr (.inl (f8 w0 w1 w2 w3 w4 w5 w6 w7)))), (qm, .inl (cJ, 8, .inr (.inl (f8 u0 g1 g2 g3 g4 g5 g6 g7))))] H := by rw [← f8_0]; exact hP
  have hD : va_D A [(hm, .inr (1, [.ref a, .ref b, .ref qa, .ref qu, .ref qb, .ref qh, .ref qm])), (qu, .inl (cJ, 8, .inr (.inl (f8 u0 u1 u2 u3 u4 u5 u6 u7)))), (qb, .inl (cJ, 8, .inr (.inl (f8 v0 v1 v2 v3 v4 v5 v6 v7)))), (qh, .inl (cJ, 8, .inr (.inl (f8 w0 w1 w2 w3 w4 w5 w6 w7)))), (qm, .inl (cJ, 8, .inr (.inl (f8 u0 g1 g2 g3 g4 g5 g6 g7))))] := by rw [← f8_0]; exact hD
  refine lv_iinc (v := 1) (lv' := [(3, .int 1), (0, .ref hm), (1, .long t)]) hx hb d_M_part_20 hl (k := 0) rfl (by first | exact nI_add _ 1 | rfl | decide) (by decide) rfl (fun ls hl => ?_)
  refine lv_goto (tgt := 2) hx hb d_M_part_23 (by decide) ?_
  refine lv_iload_n hx hb d_M_part_2 rfl (lv_at hl 0 rfl) ?_
  refine lv_bipush (v := 8) hx hb d_M_part_3 (by decide) ?_
  refine bn_ge (a1 := 1) (b1 := 8) (tgt := 26) hx hb (by omega) (by omega) d_M_part_5 (by decide) (fun c_2 => ?_) (fun c_2 => ?_)
  · exact absurd c_2 (by decide)
  refine lv_aload_n hx hb d_M_part_8 rfl (lv_at hl 1 rfl) ?_
  refine va_get (D := D) (ci := 1) (v := .ref qm) (C := R_M) (T := T_M) (N := 7) hx hb hts (ui_M _) hown hK hP 0 rfl rfl 6 (by decide) (hts _ (gwc gw_534)) (fun _ h9 => h9) rfl d_M_part_9 ?_
  refine lv_iload_n hx hb d_M_part_12 rfl (lv_at hl 0 rfl) ?_
  refine lv_aload_n hx hb d_M_part_13 rfl (lv_at hl 1 rfl) ?_
  refine va_get (D := D) (ci := 1) (v := .ref qu) (C := R_M) (T := T_M) (N := 7) hx hb hts (ui_M _) hown hK hP 0 rfl rfl 3 (by decide) (hts _ (gwc gw_531)) (fun _ h9 => h9) rfl d_M_part_14 ?_
  refine lv_iload_n hx hb d_M_part_17 rfl (lv_at hl 0 rfl) ?_
  refine ld_l hx hb hK hP 1 2 rfl rfl 1 (by omega) (by omega) d_M_part_18 ?_
  refine tp_l (u1) (rfl) ?_
  refine st_l hx hb hK hP hD hS 4 2 rfl rfl 1 (by omega) (by omega) d_M_part_19 (fun H locs hP hD hS => ?_)
  have hP : va_P D cl [(hm, .inr (1, [.ref a, .ref b, .ref qa, .ref qu, .ref qb, .ref qh, .ref qm])), (qu, .inl (cJ, 8, .inr (.inl (f8 u0 u1 u2 u3 u4 u5 u6 u7)))), (qb, .inl (cJ, 8, .inr (.inl (f8 v0 v1 v2 v3 v4 v5 v6 v7)))), (qh, .inl (cJ, 8, .inr (.inl (f8 w0 w1 w2 w3 w4 w5 w6 w7)))), (qm, .inl (cJ, 8, .inr (.inl (f8 u0 u1 g2 g3 g4 g5 g6 g7))))] H := by rw [← f8_1]; exact hP
  have hD : va_D A [(hm, .inr (1, [.ref a, .ref b, .ref qa, .ref qu, .ref qb, .ref qh, .ref qm])), (qu, .inl (cJ, 8, .inr (.inl (f8 u0 u1 u2 u3 u4 u5 u6 u7)))), (qb, .inl (cJ, 8, .inr (.inl (f8 v0 v1 v2 v3 v4 v5 v6 v7)))), (qh, .inl (cJ, 8, .inr (.inl (f8 w0 w1 w2 w3 w4 w5 w6 w7)))), (qm, .inl (cJ, 8, .inr (.inl (f8 u0 u1 g2 g3 g4 g5 g6 g7))))] := by rw [← f8_1]; exact hD
  refine lv_iinc (v := 2) (lv' := [(3, .int 2), (0, .ref hm), (1, .long t)]) hx hb d_M_part_20 hl (k := 0) rfl (by first | exact nI_add _ 1 | rfl | decide) (by decide) rfl (fun ls hl => ?_)
  refine lv_goto (tgt := 2) hx hb d_M_part_23 (by decide) ?_
  refine lv_iload_n hx hb d_M_part_2 rfl (lv_at hl 0 rfl) ?_
  refine lv_bipush (v := 8) hx hb d_M_part_3 (by decide) ?_
  refine bn_ge (a1 := 2) (b1 := 8) (tgt := 26) hx hb (by omega) (by omega) d_M_part_5 (by decide) (fun c_3 => ?_) (fun c_3 => ?_)
  · exact absurd c_3 (by decide)
  refine lv_aload_n hx hb d_M_part_8 rfl (lv_at hl 1 rfl) ?_
  refine va_get (D := D) (ci := 1) (v := .ref qm) (C := R_M) (T := T_M) (N := 7) hx hb hts (ui_M _) hown hK hP 0 rfl rfl 6 (by decide) (hts _ (gwc gw_534)) (fun _ h9 => h9) rfl d_M_part_9 ?_
  refine lv_iload_n hx hb d_M_part_12 rfl (lv_at hl 0 rfl) ?_
  refine lv_aload_n hx hb d_M_part_13 rfl (lv_at hl 1 rfl) ?_
  refine va_get (D := D) (ci := 1) (v := .ref qu) (C := R_M) (T := T_M) (N := 7) hx hb hts (ui_M _) hown hK hP 0 rfl rfl 3 (by decide) (hts _ (gwc gw_531)) (fun _ h9 => h9) rfl d_M_part_14 ?_
  refine lv_iload_n hx hb d_M_part_17 rfl (lv_at hl 0 rfl) ?_
  refine ld_l hx hb hK hP 1 2 rfl rfl 2 (by omega) (by omega) d_M_part_18 ?_
  refine tp_l (u2) (rfl) ?_
  refine st_l hx hb hK hP hD hS 4 2 rfl rfl 2 (by omega) (by omega) d_M_part_19 (fun H locs hP hD hS => ?_)
  have hP : va_P D cl [(hm, .inr (1, [.ref a, .ref b, .ref qa, .ref qu, .ref qb, .ref qh, .ref qm])), (qu, .inl (cJ, 8, .inr (.inl (f8 u0 u1 u2 u3 u4 u5 u6 u7)))), (qb, .inl (cJ, 8, .inr (.inl (f8 v0 v1 v2 v3 v4 v5 v6 v7)))), (qh, .inl (cJ, 8, .inr (.inl (f8 w0 w1 w2 w3 w4 w5 w6 w7)))), (qm, .inl (cJ, 8, .inr (.inl (f8 u0 u1 u2 g3 g4 g5 g6 g7))))] H := by rw [← f8_2]; exact hP
  have hD : va_D A [(hm, .inr (1, [.ref a, .ref b, .ref qa, .ref qu, .ref qb, .ref qh, .ref qm])), (qu, .inl (cJ, 8, .inr (.inl (f8 u0 u1 u2 u3 u4 u5 u6 u7)))), (qb, .inl (cJ, 8, .inr (.inl (f8 v0 v1 v2 v3 v4 v5 v6 v7)))), (qh, .inl (cJ, 8, .inr (.inl (f8 w0 w1 w2 w3 w4 w5 w6 w7)))), (qm, .inl (cJ, 8, .inr (.inl (f8 u0 u1 u2 g3 g4 g5 g6 g7))))] := by rw [← f8_2]; exact hD
  refine lv_iinc (v := 3) (lv' := [(3, .int 3), (0, .ref hm), (1, .long t)]) hx hb d_M_part_20 hl (k := 0) rfl (by first | exact nI_add _ 1 | rfl | decide) (by decide) rfl (fun ls hl => ?_)
  refine lv_goto (tgt := 2) hx hb d_M_part_23 (by decide) ?_
  refine lv_iload_n hx hb d_M_part_2 rfl (lv_at hl 0 rfl) ?_
  refine lv_bipush (v := 8) hx hb d_M_part_3 (by decide) ?_
  refine bn_ge (a1 := 3) (b1 := 8) (tgt := 26) hx hb (by omega) (by omega) d_M_part_5 (by decide) (fun c_4 => ?_) (fun c_4 => ?_)
  · exact absurd c_4 (by decide)
  refine lv_aload_n hx hb d_M_part_8 rfl (lv_at hl 1 rfl) ?_
  refine va_get (D := D) (ci := 1) (v := .ref qm) (C := R_M) (T := T_M) (N := 7) hx hb hts (ui_M _) hown hK hP 0 rfl rfl 6 (by decide) (hts _ (gwc gw_534)) (fun _ h9 => h9) rfl d_M_part_9 ?_
  refine lv_iload_n hx hb d_M_part_12 rfl (lv_at hl 0 rfl) ?_
  refine lv_aload_n hx hb d_M_part_13 rfl (lv_at hl 1 rfl) ?_
  refine va_get (D := D) (ci := 1) (v := .ref qu) (C := R_M) (T := T_M) (N := 7) hx hb hts (ui_M _) hown hK hP 0 rfl rfl 3 (by decide) (hts _ (gwc gw_531)) (fun _ h9 => h9) rfl d_M_part_14 ?_
  refine lv_iload_n hx hb d_M_part_17 rfl (lv_at hl 0 rfl) ?_
  refine ld_l hx hb hK hP 1 2 rfl rfl 3 (by omega) (by omega) d_M_part_18 ?_
  refine tp_l (u3) (rfl) ?_
  refine st_l hx hb hK hP hD hS 4 2 rfl rfl 3 (by omega) (by omega) d_M_part_19 (fun H locs hP hD hS => ?_)
  have hP : va_P D cl [(hm, .inr (1, [.ref a, .ref b, .ref qa, .ref qu, .ref qb, .ref qh, .ref qm])), (qu, .inl (cJ, 8, .inr (.inl (f8 u0 u1 u2 u3 u4 u5 u6 u7)))), (qb, .inl (cJ, 8, .inr (.inl (f8 v0 v1 v2 v3 v4 v5 v6 v7)))), (qh, .inl (cJ, 8, .inr (.inl (f8 w0 w1 w2 w3 w4 w5 w6 w7)))), (qm, .inl (cJ, 8, .inr (.inl (f8 u0 u1 u2 u3 g4 g5 g6 g7))))] H := by rw [← f8_3]; exact hP
  have hD : va_D A [(hm, .inr (1, [.ref a, .ref b, .ref qa, .ref qu, .ref qb, .ref qh, .ref qm])), (qu, .inl (cJ, 8, .inr (.inl (f8 u0 u1 u2 u3 u4 u5 u6 u7)))), (qb, .inl (cJ, 8, .inr (.inl (f8 v0 v1 v2 v3 v4 v5 v6 v7)))), (qh, .inl (cJ, 8, .inr (.inl (f8 w0 w1 w2 w3 w4 w5 w6 w7)))), (qm, .inl (cJ, 8, .inr (.inl (f8 u0 u1 u2 u3 g4 g5 g6 g7))))] := by rw [← f8_3]; exact hD
  refine lv_iinc (v := 4) (lv' := [(3, .int 4), (0, .ref hm), (1, .long t)]) hx hb d_M_part_20 hl (k := 0) rfl (by first | exact nI_add _ 1 | rfl | decide) (by decide) rfl (fun ls hl => ?_)
  refine lv_goto (tgt := 2) hx hb d_M_part_23 (by decide) ?_
  refine lv_iload_n hx hb d_M_part_2 rfl (lv_at hl 0 rfl) ?_
  refine lv_bipush (v := 8) hx hb d_M_part_3 (by decide) ?_
  refine bn_ge (a1 := 4) (b1 := 8) (tgt := 26) hx hb (by omega) (by omega) d_M_part_5 (by decide) (fun c_5 => ?_) (fun c_5 => ?_)
  · exact absurd c_5 (by decide)
  refine lv_aload_n hx hb d_M_part_8 rfl (lv_at hl 1 rfl) ?_
  refine va_get (D := D) (ci := 1) (v := .ref qm) (C := R_M) (T := T_M) (N := 7) hx hb hts (ui_M _) hown hK hP 0 rfl rfl 6 (by decide) (hts _ (gwc gw_534)) (fun _ h9 => h9) rfl d_M_part_9 ?_
  refine lv_iload_n hx hb d_M_part_12 rfl (lv_at hl 0 rfl) ?_
  refine lv_aload_n hx hb d_M_part_13 rfl (lv_at hl 1 rfl) ?_
  refine va_get (D := D) (ci := 1) (v := .ref qu) (C := R_M) (T := T_M) (N := 7) hx hb hts (ui_M _) hown hK hP 0 rfl rfl 3 (by decide) (hts _ (gwc gw_531)) (fun _ h9 => h9) rfl d_M_part_14 ?_
  refine lv_iload_n hx hb d_M_part_17 rfl (lv_at hl 0 rfl) ?_
  refine ld_l hx hb hK hP 1 2 rfl rfl 4 (by omega) (by omega) d_M_part_18 ?_
  refine tp_l (u4) (rfl) ?_
  refine st_l hx hb hK hP hD hS 4 2 rfl rfl 4 (by omega) (by omega) d_M_part_19 (fun H locs hP hD hS => ?_)
  have hP : va_P D cl [(hm, .inr (1, [.ref a, .ref b, .ref qa, .ref qu, .ref qb, .ref qh, .ref qm])), (qu, .inl (cJ, 8, .inr (.inl (f8 u0 u1 u2 u3 u4 u5 u6 u7)))), (qb, .inl (cJ, 8, .inr (.inl (f8 v0 v1 v2 v3 v4 v5 v6 v7)))), (qh, .inl (cJ, 8, .inr (.inl (f8 w0 w1 w2 w3 w4 w5 w6 w7)))), (qm, .inl (cJ, 8, .inr (.inl (f8 u0 u1 u2 u3 u4 g5 g6 g7))))] H := by rw [← f8_4]; exact hP
  have hD : va_D A [(hm, .inr (1, [.ref a, .ref b, .ref qa, .ref qu, .ref qb, .ref qh, .ref qm])), (qu, .inl (cJ, 8, .inr (.inl (f8 u0 u1 u2 u3 u4 u5 u6 u7)))), (qb, .inl (cJ, 8, .inr (.inl (f8 v0 v1 v2 v3 v4 v5 v6 v7)))), (qh, .inl (cJ, 8, .inr (.inl (f8 w0 w1 w2 w3 w4 w5 w6 w7)))), (qm, .inl (cJ, 8, .inr (.inl (f8 u0 u1 u2 u3 u4 g5 g6 g7))))] := by rw [← f8_4]; exact hD
  refine lv_iinc (v := 5) (lv' := [(3, .int 5), (0, .ref hm), (1, .long t)]) hx hb d_M_part_20 hl (k := 0) rfl (by first | exact nI_add _ 1 | rfl | decide) (by decide) rfl (fun ls hl => ?_)
  refine lv_goto (tgt := 2) hx hb d_M_part_23 (by decide) ?_
  refine lv_iload_n hx hb d_M_part_2 rfl (lv_at hl 0 rfl) ?_
  refine lv_bipush (v := 8) hx hb d_M_part_3 (by decide) ?_
  refine bn_ge (a1 := 5) (b1 := 8) (tgt := 26) hx hb (by omega) (by omega) d_M_part_5 (by decide) (fun c_6 => ?_) (fun c_6 => ?_)
  · exact absurd c_6 (by decide)
  refine lv_aload_n hx hb d_M_part_8 rfl (lv_at hl 1 rfl) ?_
  refine va_get (D := D) (ci := 1) (v := .ref qm) (C := R_M) (T := T_M) (N := 7) hx hb hts (ui_M _) hown hK hP 0 rfl rfl 6 (by decide) (hts _ (gwc gw_534)) (fun _ h9 => h9) rfl d_M_part_9 ?_
  refine lv_iload_n hx hb d_M_part_12 rfl (lv_at hl 0 rfl) ?_
  refine lv_aload_n hx hb d_M_part_13 rfl (lv_at hl 1 rfl) ?_
  refine va_get (D := D) (ci := 1) (v := .ref qu) (C := R_M) (T := T_M) (N := 7) hx hb hts (ui_M _) hown hK hP 0 rfl rfl 3 (by decide) (hts _ (gwc gw_531)) (fun _ h9 => h9) rfl d_M_part_14 ?_
  refine lv_iload_n hx hb d_M_part_17 rfl (lv_at hl 0 rfl) ?_
  refine ld_l hx hb hK hP 1 2 rfl rfl 5 (by omega) (by omega) d_M_part_18 ?_
  refine tp_l (u5) (rfl) ?_
  refine st_l hx hb hK hP hD hS 4 2 rfl rfl 5 (by omega) (by omega) d_M_part_19 (fun H locs hP hD hS => ?_)
  have hP : va_P D cl [(hm, .inr (1, [.ref a, .ref b, .ref qa, .ref qu, .ref qb, .ref qh, .ref qm])), (qu, .inl (cJ, 8, .inr (.inl (f8 u0 u1 u2 u3 u4 u5 u6 u7)))), (qb, .inl (cJ, 8, .inr (.inl (f8 v0 v1 v2 v3 v4 v5 v6 v7)))), (qh, .inl (cJ, 8, .inr (.inl (f8 w0 w1 w2 w3 w4 w5 w6 w7)))), (qm, .inl (cJ, 8, .inr (.inl (f8 u0 u1 u2 u3 u4 u5 g6 g7))))] H := by rw [← f8_5]; exact hP
  have hD : va_D A [(hm, .inr (1, [.ref a, .ref b, .ref qa, .ref qu, .ref qb, .ref qh, .ref qm])), (qu, .inl (cJ, 8, .inr (.inl (f8 u0 u1 u2 u3 u4 u5 u6 u7)))), (qb, .inl (cJ, 8, .inr (.inl (f8 v0 v1 v2 v3 v4 v5 v6 v7)))), (qh, .inl (cJ, 8, .inr (.inl (f8 w0 w1 w2 w3 w4 w5 w6 w7)))), (qm, .inl (cJ, 8, .inr (.inl (f8 u0 u1 u2 u3 u4 u5 g6 g7))))] := by rw [← f8_5]; exact hD
  refine lv_iinc (v := 6) (lv' := [(3, .int 6), (0, .ref hm), (1, .long t)]) hx hb d_M_part_20 hl (k := 0) rfl (by first | exact nI_add _ 1 | rfl | decide) (by decide) rfl (fun ls hl => ?_)
  refine lv_goto (tgt := 2) hx hb d_M_part_23 (by decide) ?_
  refine lv_iload_n hx hb d_M_part_2 rfl (lv_at hl 0 rfl) ?_
  refine lv_bipush (v := 8) hx hb d_M_part_3 (by decide) ?_
  refine bn_ge (a1 := 6) (b1 := 8) (tgt := 26) hx hb (by omega) (by omega) d_M_part_5 (by decide) (fun c_7 => ?_) (fun c_7 => ?_)
  · exact absurd c_7 (by decide)
  refine lv_aload_n hx hb d_M_part_8 rfl (lv_at hl 1 rfl) ?_
  refine va_get (D := D) (ci := 1) (v := .ref qm) (C := R_M) (T := T_M) (N := 7) hx hb hts (ui_M _) hown hK hP 0 rfl rfl 6 (by decide) (hts _ (gwc gw_534)) (fun _ h9 => h9) rfl d_M_part_9 ?_
  refine lv_iload_n hx hb d_M_part_12 rfl (lv_at hl 0 rfl) ?_
  refine lv_aload_n hx hb d_M_part_13 rfl (lv_at hl 1 rfl) ?_
  refine va_get (D := D) (ci := 1) (v := .ref qu) (C := R_M) (T := T_M) (N := 7) hx hb hts (ui_M _) hown hK hP 0 rfl rfl 3 (by decide) (hts _ (gwc gw_531)) (fun _ h9 => h9) rfl d_M_part_14 ?_
  refine lv_iload_n hx hb d_M_part_17 rfl (lv_at hl 0 rfl) ?_
  refine ld_l hx hb hK hP 1 2 rfl rfl 6 (by omega) (by omega) d_M_part_18 ?_
  refine tp_l (u6) (rfl) ?_
  refine st_l hx hb hK hP hD hS 4 2 rfl rfl 6 (by omega) (by omega) d_M_part_19 (fun H locs hP hD hS => ?_)
  have hP : va_P D cl [(hm, .inr (1, [.ref a, .ref b, .ref qa, .ref qu, .ref qb, .ref qh, .ref qm])), (qu, .inl (cJ, 8, .inr (.inl (f8 u0 u1 u2 u3 u4 u5 u6 u7)))), (qb, .inl (cJ, 8, .inr (.inl (f8 v0 v1 v2 v3 v4 v5 v6 v7)))), (qh, .inl (cJ, 8, .inr (.inl (f8 w0 w1 w2 w3 w4 w5 w6 w7)))), (qm, .inl (cJ, 8, .inr (.inl (f8 u0 u1 u2 u3 u4 u5 u6 g7))))] H := by rw [← f8_6]; exact hP
  have hD : va_D A [(hm, .inr (1, [.ref a, .ref b, .ref qa, .ref qu, .ref qb, .ref qh, .ref qm])), (qu, .inl (cJ, 8, .inr (.inl (f8 u0 u1 u2 u3 u4 u5 u6 u7)))), (qb, .inl (cJ, 8, .inr (.inl (f8 v0 v1 v2 v3 v4 v5 v6 v7)))), (qh, .inl (cJ, 8, .inr (.inl (f8 w0 w1 w2 w3 w4 w5 w6 w7)))), (qm, .inl (cJ, 8, .inr (.inl (f8 u0 u1 u2 u3 u4 u5 u6 g7))))] := by rw [← f8_6]; exact hD
  refine lv_iinc (v := 7) (lv' := [(3, .int 7), (0, .ref hm), (1, .long t)]) hx hb d_M_part_20 hl (k := 0) rfl (by first | exact nI_add _ 1 | rfl | decide) (by decide) rfl (fun ls hl => ?_)
  refine lv_goto (tgt := 2) hx hb d_M_part_23 (by decide) ?_
  refine lv_iload_n hx hb d_M_part_2 rfl (lv_at hl 0 rfl) ?_
  refine lv_bipush (v := 8) hx hb d_M_part_3 (by decide) ?_
  refine bn_ge (a1 := 7) (b1 := 8) (tgt := 26) hx hb (by omega) (by omega) d_M_part_5 (by decide) (fun c_8 => ?_) (fun c_8 => ?_)
  · exact absurd c_8 (by decide)
  refine lv_aload_n hx hb d_M_part_8 rfl (lv_at hl 1 rfl) ?_
  refine va_get (D := D) (ci := 1) (v := .ref qm) (C := R_M) (T := T_M) (N := 7) hx hb hts (ui_M _) hown hK hP 0 rfl rfl 6 (by decide) (hts _ (gwc gw_534)) (fun _ h9 => h9) rfl d_M_part_9 ?_
  refine lv_iload_n hx hb d_M_part_12 rfl (lv_at hl 0 rfl) ?_
  refine lv_aload_n hx hb d_M_part_13 rfl (lv_at hl 1 rfl) ?_
  refine va_get (D := D) (ci := 1) (v := .ref qu) (C := R_M) (T := T_M) (N := 7) hx hb hts (ui_M _) hown hK hP 0 rfl rfl 3 (by decide) (hts _ (gwc gw_531)) (fun _ h9 => h9) rfl d_M_part_14 ?_
  refine lv_iload_n hx hb d_M_part_17 rfl (lv_at hl 0 rfl) ?_
  refine ld_l hx hb hK hP 1 2 rfl rfl 7 (by omega) (by omega) d_M_part_18 ?_
  refine tp_l (u7) (rfl) ?_
  refine st_l hx hb hK hP hD hS 4 2 rfl rfl 7 (by omega) (by omega) d_M_part_19 (fun H locs hP hD hS => ?_)
  have hP : va_P D cl [(hm, .inr (1, [.ref a, .ref b, .ref qa, .ref qu, .ref qb, .ref qh, .ref qm])), (qu, .inl (cJ, 8, .inr (.inl (f8 u0 u1 u2 u3 u4 u5 u6 u7)))), (qb, .inl (cJ, 8, .inr (.inl (f8 v0 v1 v2 v3 v4 v5 v6 v7)))), (qh, .inl (cJ, 8, .inr (.inl (f8 w0 w1 w2 w3 w4 w5 w6 w7)))), (qm, .inl (cJ, 8, .inr (.inl (f8 u0 u1 u2 u3 u4 u5 u6 u7))))] H := by rw [← f8_7]; exact hP
  have hD : va_D A [(hm, .inr (1, [.ref a, .ref b, .ref qa, .ref qu, .ref qb, .ref qh, .ref qm])), (qu, .inl (cJ, 8, .inr (.inl (f8 u0 u1 u2 u3 u4 u5 u6 u7)))), (qb, .inl (cJ, 8, .inr (.inl (f8 v0 v1 v2 v3 v4 v5 v6 v7)))), (qh, .inl (cJ, 8, .inr (.inl (f8 w0 w1 w2 w3 w4 w5 w6 w7)))), (qm, .inl (cJ, 8, .inr (.inl (f8 u0 u1 u2 u3 u4 u5 u6 u7))))] := by rw [← f8_7]; exact hD
  refine lv_iinc (v := 8) (lv' := [(3, .int 8), (0, .ref hm), (1, .long t)]) hx hb d_M_part_20 hl (k := 0) rfl (by first | exact nI_add _ 1 | rfl | decide) (by decide) rfl (fun ls hl => ?_)
  refine lv_goto (tgt := 2) hx hb d_M_part_23 (by decide) ?_
  refine lv_iload_n hx hb d_M_part_2 rfl (lv_at hl 0 rfl) ?_
  refine lv_bipush (v := 8) hx hb d_M_part_3 (by decide) ?_
  refine bn_ge (a1 := 8) (b1 := 8) (tgt := 26) hx hb (by omega) (by omega) d_M_part_5 (by decide) (fun c_9 => ?_) (fun c_9 => ?_)
  rotate_left
  · exact absurd c_9 (by decide)
  refine lv_iconst (v := 0) hx hb d_M_part_26 (by decide) ?_
  refine lv_istore_n (lv' := [(3, .int 0), (0, .ref hm), (1, .long t)]) hx hb d_M_part_27 rfl hl (by decide) rfl (fun ls hl => ?_)
  refine lv_iload_n hx hb d_M_part_28 rfl (lv_at hl 0 rfl) ?_
  refine lv_iconst (v := 4) hx hb d_M_part_29 (by decide) ?_
  refine bn_ge (a1 := 0) (b1 := 4) (tgt := 162) hx hb (by omega) (by omega) d_M_part_30 (by decide) (fun c_10 => ?_) (fun c_10 => ?_)
  · exact absurd c_10 (by decide)
  refine lv_aload_n hx hb d_M_part_33 rfl (lv_at hl 1 rfl) ?_
  refine va_get (D := D) (ci := 1) (v := .ref qb) (C := R_M) (T := T_M) (N := 7) hx hb hts (ui_M _) hown hK hP 0 rfl rfl 4 (by decide) (hts _ (gwc gw_532)) (fun _ h9 => h9) rfl d_M_part_34 ?_
  refine lv_iconst (v := 2) hx hb d_M_part_37 (by decide) ?_
  refine lv_iload_n hx hb d_M_part_38 rfl (lv_at hl 0 rfl) ?_
  refine lv_imul hx hb d_M_part_39 ?_
  refine tp_i (0) (by decide) ?_
  refine lv_aload_n hx hb d_M_part_40 rfl (lv_at hl 1 rfl) ?_
  refine va_get (D := D) (ci := 1) (v := .ref qm) (C := R_M) (T := T_M) (N := 7) hx hb hts (ui_M _) hown hK hP 0 rfl rfl 6 (by decide) (hts _ (gwc gw_534)) (fun _ h9 => h9) rfl d_M_part_41 ?_
  refine lv_iconst (v := 0) hx hb d_M_part_44 (by decide) ?_
  refine ld_l hx hb hK hP 4 2 rfl rfl 0 (by omega) (by omega) d_M_part_45 ?_
  refine tp_l (u0) (rfl) ?_
  refine st_l hx hb hK hP hD hS 2 2 rfl rfl 0 (by omega) (by omega) d_M_part_46 (fun H locs hP hD hS => ?_)
  have hP : va_P D cl [(hm, .inr (1, [.ref a, .ref b, .ref qa, .ref qu, .ref qb, .ref qh, .ref qm])), (qu, .inl (cJ, 8, .inr (.inl (f8 u0 u1 u2 u3 u4 u5 u6 u7)))), (qb, .inl (cJ, 8, .inr (.inl (f8 u0 v1 v2 v3 v4 v5 v6 v7)))), (qh, .inl (cJ, 8, .inr (.inl (f8 w0 w1 w2 w3 w4 w5 w6 w7)))), (qm, .inl (cJ, 8, .inr (.inl (f8 u0 u1 u2 u3 u4 u5 u6 u7))))] H := by rw [← f8_0]; exact hP
  have hD : va_D A [(hm, .inr (1, [.ref a, .ref b, .ref qa, .ref qu, .ref qb, .ref qh, .ref qm])), (qu, .inl (cJ, 8, .inr (.inl (f8 u0 u1 u2 u3 u4 u5 u6 u7)))), (qb, .inl (cJ, 8, .inr (.inl (f8 u0 v1 v2 v3 v4 v5 v6 v7)))), (qh, .inl (cJ, 8, .inr (.inl (f8 w0 w1 w2 w3 w4 w5 w6 w7)))), (qm, .inl (cJ, 8, .inr (.inl (f8 u0 u1 u2 u3 u4 u5 u6 u7))))] := by rw [← f8_0]; exact hD
  refine lv_aload_n hx hb d_M_part_47 rfl (lv_at hl 1 rfl) ?_
  refine va_get (D := D) (ci := 1) (v := .ref qb) (C := R_M) (T := T_M) (N := 7) hx hb hts (ui_M _) hown hK hP 0 rfl rfl 4 (by decide) (hts _ (gwc gw_532)) (fun _ h9 => h9) rfl d_M_part_48 ?_
  refine lv_iconst (v := 2) hx hb d_M_part_51 (by decide) ?_
  refine lv_iload_n hx hb d_M_part_52 rfl (lv_at hl 0 rfl) ?_
  refine lv_imul hx hb d_M_part_53 ?_
  refine tp_i (0) (by decide) ?_
  refine lv_iconst (v := 1) hx hb d_M_part_54 (by decide) ?_
  refine lv_iadd hx hb d_M_part_55 ?_
  refine tp_i (1) (by decide) ?_
  refine lv_aload_n hx hb d_M_part_56 rfl (lv_at hl 1 rfl) ?_
  refine va_get (D := D) (ci := 1) (v := .ref qm) (C := R_M) (T := T_M) (N := 7) hx hb hts (ui_M _) hown hK hP 0 rfl rfl 6 (by decide) (hts _ (gwc gw_534)) (fun _ h9 => h9) rfl d_M_part_57 ?_
  refine lv_iconst (v := 1) hx hb d_M_part_60 (by decide) ?_
  refine ld_l hx hb hK hP 4 2 rfl rfl 1 (by omega) (by omega) d_M_part_61 ?_
  refine tp_l (u1) (rfl) ?_
  refine st_l hx hb hK hP hD hS 2 2 rfl rfl 1 (by omega) (by omega) d_M_part_62 (fun H locs hP hD hS => ?_)
  have hP : va_P D cl [(hm, .inr (1, [.ref a, .ref b, .ref qa, .ref qu, .ref qb, .ref qh, .ref qm])), (qu, .inl (cJ, 8, .inr (.inl (f8 u0 u1 u2 u3 u4 u5 u6 u7)))), (qb, .inl (cJ, 8, .inr (.inl (f8 u0 u1 v2 v3 v4 v5 v6 v7)))), (qh, .inl (cJ, 8, .inr (.inl (f8 w0 w1 w2 w3 w4 w5 w6 w7)))), (qm, .inl (cJ, 8, .inr (.inl (f8 u0 u1 u2 u3 u4 u5 u6 u7))))] H := by rw [← f8_1]; exact hP
  have hD : va_D A [(hm, .inr (1, [.ref a, .ref b, .ref qa, .ref qu, .ref qb, .ref qh, .ref qm])), (qu, .inl (cJ, 8, .inr (.inl (f8 u0 u1 u2 u3 u4 u5 u6 u7)))), (qb, .inl (cJ, 8, .inr (.inl (f8 u0 u1 v2 v3 v4 v5 v6 v7)))), (qh, .inl (cJ, 8, .inr (.inl (f8 w0 w1 w2 w3 w4 w5 w6 w7)))), (qm, .inl (cJ, 8, .inr (.inl (f8 u0 u1 u2 u3 u4 u5 u6 u7))))] := by rw [← f8_1]; exact hD
  refine lv_aload_n hx hb d_M_part_63 rfl (lv_at hl 1 rfl) ?_
  refine va_get (D := D) (ci := 1) (v := .ref qh) (C := R_M) (T := T_M) (N := 7) hx hb hts (ui_M _) hown hK hP 0 rfl rfl 5 (by decide) (hts _ (gwc gw_533)) (fun _ h9 => h9) rfl d_M_part_64 ?_
  refine lv_bipush (v := 6) hx hb d_M_part_67 (by decide) ?_
  refine lv_iconst (v := 2) hx hb d_M_part_69 (by decide) ?_
  refine lv_iload_n hx hb d_M_part_70 rfl (lv_at hl 0 rfl) ?_
  refine lv_imul hx hb d_M_part_71 ?_
  refine tp_i (0) (by decide) ?_
  refine lv_isub hx hb d_M_part_72 ?_
  refine tp_i (6) (by decide) ?_
  refine lv_aload_n hx hb d_M_part_73 rfl (lv_at hl 1 rfl) ?_
  refine va_get (D := D) (ci := 1) (v := .ref qm) (C := R_M) (T := T_M) (N := 7) hx hb hts (ui_M _) hown hK hP 0 rfl rfl 6 (by decide) (hts _ (gwc gw_534)) (fun _ h9 => h9) rfl d_M_part_74 ?_
  refine lv_bipush (v := 6) hx hb d_M_part_77 (by decide) ?_
  refine lv_iconst (v := 2) hx hb d_M_part_79 (by decide) ?_
  refine lv_iload_n hx hb d_M_part_80 rfl (lv_at hl 0 rfl) ?_
  refine lv_imul hx hb d_M_part_81 ?_
  refine tp_i (0) (by decide) ?_
  refine lv_isub hx hb d_M_part_82 ?_
  refine tp_i (6) (by decide) ?_
  refine ld_l hx hb hK hP 4 2 rfl rfl 6 (by omega) (by omega) d_M_part_83 ?_
  refine tp_l (u6) (rfl) ?_
  refine st_l hx hb hK hP hD hS 3 2 rfl rfl 6 (by omega) (by omega) d_M_part_84 (fun H locs hP hD hS => ?_)
  have hP : va_P D cl [(hm, .inr (1, [.ref a, .ref b, .ref qa, .ref qu, .ref qb, .ref qh, .ref qm])), (qu, .inl (cJ, 8, .inr (.inl (f8 u0 u1 u2 u3 u4 u5 u6 u7)))), (qb, .inl (cJ, 8, .inr (.inl (f8 u0 u1 v2 v3 v4 v5 v6 v7)))), (qh, .inl (cJ, 8, .inr (.inl (f8 w0 w1 w2 w3 w4 w5 u6 w7)))), (qm, .inl (cJ, 8, .inr (.inl (f8 u0 u1 u2 u3 u4 u5 u6 u7))))] H := by rw [← f8_6]; exact hP
  have hD : va_D A [(hm, .inr (1, [.ref a, .ref b, .ref qa, .ref qu, .ref qb, .ref qh, .ref qm])), (qu, .inl (cJ, 8, .inr (.inl (f8 u0 u1 u2 u3 u4 u5 u6 u7)))), (qb, .inl (cJ, 8, .inr (.inl (f8 u0 u1 v2 v3 v4 v5 v6 v7)))), (qh, .inl (cJ, 8, .inr (.inl (f8 w0 w1 w2 w3 w4 w5 u6 w7)))), (qm, .inl (cJ, 8, .inr (.inl (f8 u0 u1 u2 u3 u4 u5 u6 u7))))] := by rw [← f8_6]; exact hD
  refine lv_aload_n hx hb d_M_part_85 rfl (lv_at hl 1 rfl) ?_
  refine va_get (D := D) (ci := 1) (v := .ref qh) (C := R_M) (T := T_M) (N := 7) hx hb hts (ui_M _) hown hK hP 0 rfl rfl 5 (by decide) (hts _ (gwc gw_533)) (fun _ h9 => h9) rfl d_M_part_86 ?_
  refine lv_bipush (v := 7) hx hb d_M_part_89 (by decide) ?_
  refine lv_iconst (v := 2) hx hb d_M_part_91 (by decide) ?_
  refine lv_iload_n hx hb d_M_part_92 rfl (lv_at hl 0 rfl) ?_
  refine lv_imul hx hb d_M_part_93 ?_
  refine tp_i (0) (by decide) ?_
  refine lv_isub hx hb d_M_part_94 ?_
  refine tp_i (7) (by decide) ?_
  refine lv_aload_n hx hb d_M_part_95 rfl (lv_at hl 1 rfl) ?_
  refine va_get (D := D) (ci := 1) (v := .ref qm) (C := R_M) (T := T_M) (N := 7) hx hb hts (ui_M _) hown hK hP 0 rfl rfl 6 (by decide) (hts _ (gwc gw_534)) (fun _ h9 => h9) rfl d_M_part_96 ?_
  refine lv_bipush (v := 7) hx hb d_M_part_99 (by decide) ?_
  refine lv_iconst (v := 2) hx hb d_M_part_101 (by decide) ?_
  refine lv_iload_n hx hb d_M_part_102 rfl (lv_at hl 0 rfl) ?_
  refine lv_imul hx hb d_M_part_103 ?_
  refine tp_i (0) (by decide) ?_
  refine lv_isub hx hb d_M_part_104 ?_
  refine tp_i (7) (by decide) ?_
  refine ld_l hx hb hK hP 4 2 rfl rfl 7 (by omega) (by omega) d_M_part_105 ?_
  refine tp_l (u7) (rfl) ?_
  refine st_l hx hb hK hP hD hS 3 2 rfl rfl 7 (by omega) (by omega) d_M_part_106 (fun H locs hP hD hS => ?_)
  have hP : va_P D cl [(hm, .inr (1, [.ref a, .ref b, .ref qa, .ref qu, .ref qb, .ref qh, .ref qm])), (qu, .inl (cJ, 8, .inr (.inl (f8 u0 u1 u2 u3 u4 u5 u6 u7)))), (qb, .inl (cJ, 8, .inr (.inl (f8 u0 u1 v2 v3 v4 v5 v6 v7)))), (qh, .inl (cJ, 8, .inr (.inl (f8 w0 w1 w2 w3 w4 w5 u6 u7)))), (qm, .inl (cJ, 8, .inr (.inl (f8 u0 u1 u2 u3 u4 u5 u6 u7))))] H := by rw [← f8_7]; exact hP
  have hD : va_D A [(hm, .inr (1, [.ref a, .ref b, .ref qa, .ref qu, .ref qb, .ref qh, .ref qm])), (qu, .inl (cJ, 8, .inr (.inl (f8 u0 u1 u2 u3 u4 u5 u6 u7)))), (qb, .inl (cJ, 8, .inr (.inl (f8 u0 u1 v2 v3 v4 v5 v6 v7)))), (qh, .inl (cJ, 8, .inr (.inl (f8 w0 w1 w2 w3 w4 w5 u6 u7)))), (qm, .inl (cJ, 8, .inr (.inl (f8 u0 u1 u2 u3 u4 u5 u6 u7))))] := by rw [← f8_7]; exact hD
  refine lv_iconst (v := 0) hx hb d_M_part_107 (by decide) ?_
  refine lv_istore (lv' := [(4, .int 0), (3, .int 0), (0, .ref hm), (1, .long t)]) hx hb d_M_part_108 hl (by decide) rfl (fun ls hl => ?_)
  refine lv_iload hx hb d_M_part_110 (lv_at hl 0 rfl) ?_
  refine lv_iconst (v := 2) hx hb d_M_part_112 (by decide) ?_
  refine lv_iadd hx hb d_M_part_113 ?_
  refine tp_i (2) (by decide) ?_
  refine lv_bipush (v := 8) hx hb d_M_part_114 (by decide) ?_
  refine lv_iconst (v := 2) hx hb d_M_part_116 (by decide) ?_
  refine lv_iload_n hx hb d_M_part_117 rfl (lv_at hl 1 rfl) ?_
  refine lv_imul hx hb d_M_part_118 ?_
  refine tp_i (0) (by decide) ?_
  refine lv_isub hx hb d_M_part_119 ?_
  refine tp_i (8) (by decide) ?_
  refine bn_ge (a1 := 2) (b1 := 8) (tgt := 156) hx hb (by omega) (by omega) d_M_part_120 (by decide) (fun c_11 => ?_) (fun c_11 => ?_)
  · exact absurd c_11 (by decide)
  refine lv_aload_n hx hb d_M_part_123 rfl (lv_at hl 2 rfl) ?_
  refine va_get (D := D) (ci := 1) (v := .ref qm) (C := R_M) (T := T_M) (N := 7) hx hb hts (ui_M _) hown hK hP 0 rfl rfl 6 (by decide) (hts _ (gwc gw_534)) (fun _ h9 => h9) rfl d_M_part_124 ?_
  refine lv_iload hx hb d_M_part_127 (lv_at hl 0 rfl) ?_
  refine lv_aload_n hx hb d_M_part_129 rfl (lv_at hl 2 rfl) ?_
  refine va_get (D := D) (ci := 1) (v := .ref qm) (C := R_M) (T := T_M) (N := 7) hx hb hts (ui_M _) hown hK hP 0 rfl rfl 6 (by decide) (hts _ (gwc gw_534)) (fun _ h9 => h9) rfl d_M_part_130 ?_
  refine lv_iload hx hb d_M_part_133 (lv_at hl 0 rfl) ?_
  refine ld_l hx hb hK hP 4 2 rfl rfl 0 (by omega) (by omega) d_M_part_135 ?_
  refine tp_l (u0) (rfl) ?_
  refine lv_aload_n hx hb d_M_part_136 rfl (lv_at hl 2 rfl) ?_
  refine va_get (D := D) (ci := 1) (v := .ref qm) (C := R_M) (T := T_M) (N := 7) hx hb hts (ui_M _) hown hK hP 0 rfl rfl 6 (by decide) (hts _ (gwc gw_534)) (fun _ h9 => h9) rfl d_M_part_137 ?_
  refine lv_iload hx hb d_M_part_140 (lv_at hl 0 rfl) ?_
  refine lv_iconst (v := 2) hx hb d_M_part_142 (by decide) ?_
  refine lv_iadd hx hb d_M_part_143 ?_
  refine tp_i (2) (by decide) ?_
  refine ld_l hx hb hK hP 4 2 rfl rfl 2 (by omega) (by omega) d_M_part_144 ?_
  refine tp_l (u2) (rfl) ?_
  refine lv_lload_n hx hb d_M_part_145 rfl (lv_at hl 3 rfl) ?_
  refine ct_callS (av := [.long u0, .long u2, .long t]) (rest := [.int 0, .ref qm]) (wr := [(hm, .inr (1, [.ref a, .ref b, .ref qa, .ref qu, .ref qb, .ref qh, .ref qm])), (qu, .inl (cJ, 8, .inr (.inl (f8 u0 u1 u2 u3 u4 u5 u6 u7)))), (qb, .inl (cJ, 8, .inr (.inl (f8 u0 u1 v2 v3 v4 v5 v6 v7)))), (qh, .inl (cJ, 8, .inr (.inl (f8 w0 w1 w2 w3 w4 w5 u6 u7)))), (qm, .inl (cJ, 8, .inr (.inl (f8 u0 u1 u2 u3 u4 u5 u6 u7))))]) (n := 3) (c_M_mix l D cI cB cJ qQ u0 u2 t ) hx hb hml hown hts (amb_ok qQ) hK hP hD hS hA hM (gi_S gw_669 gw_670 gw_33 gw_671) rfl (by decide +kernel) ⟨by omega, by omega⟩ [] [0, 1, 2, 3, 4] rfl rfl rfl rfl (by decide) rfl hl.1 rfl (Nat.le_of_ble_eq_true rfl) d_M_part_146 ⟨by omega, by omega⟩ (fun u_12 H locs hok hP hD hS => ?_)
  have hP : va_P D cl [(hm, .inr (1, [.ref a, .ref b, .ref qa, .ref qu, .ref qb, .ref qh, .ref qm])), (qu, .inl (cJ, 8, .inr (.inl (f8 u0 u1 u2 u3 u4 u5 u6 u7)))), (qb, .inl (cJ, 8, .inr (.inl (f8 u0 u1 v2 v3 v4 v5 v6 v7)))), (qh, .inl (cJ, 8, .inr (.inl (f8 w0 w1 w2 w3 w4 w5 u6 u7)))), (qm, .inl (cJ, 8, .inr (.inl (f8 u0 u1 u2 u3 u4 u5 u6 u7))))] H := hP
  have hD : va_D A [(hm, .inr (1, [.ref a, .ref b, .ref qa, .ref qu, .ref qb, .ref qh, .ref qm])), (qu, .inl (cJ, 8, .inr (.inl (f8 u0 u1 u2 u3 u4 u5 u6 u7)))), (qb, .inl (cJ, 8, .inr (.inl (f8 u0 u1 v2 v3 v4 v5 v6 v7)))), (qh, .inl (cJ, 8, .inr (.inl (f8 w0 w1 w2 w3 w4 w5 u6 u7)))), (qm, .inl (cJ, 8, .inr (.inl (f8 u0 u1 u2 u3 u4 u5 u6 u7))))] := hD
  refine W.eq (g2 := F0 m 149 ls [.long (mixL u0 u2 t), .int 0, .ref qm]) rfl ?_
  refine st_l hx hb hK hP hD hS 4 2 rfl rfl 0 (by omega) (by omega) d_M_part_149 (fun H locs hP hD hS => ?_)
  have hP : va_P D cl [(hm, .inr (1, [.ref a, .ref b, .ref qa, .ref qu, .ref qb, .ref qh, .ref qm])), (qu, .inl (cJ, 8, .inr (.inl (f8 u0 u1 u2 u3 u4 u5 u6 u7)))), (qb, .inl (cJ, 8, .inr (.inl (f8 u0 u1 v2 v3 v4 v5 v6 v7)))), (qh, .inl (cJ, 8, .inr (.inl (f8 w0 w1 w2 w3 w4 w5 u6 u7)))), (qm, .inl (cJ, 8, .inr (.inl (f8 (mixL u0 u2 t) u1 u2 u3 u4 u5 u6 u7))))] H := by rw [← f8_0]; exact hP
  have hD : va_D A [(hm, .inr (1, [.ref a, .ref b, .ref qa, .ref qu, .ref qb, .ref qh, .ref qm])), (qu, .inl (cJ, 8, .inr (.inl (f8 u0 u1 u2 u3 u4 u5 u6 u7)))), (qb, .inl (cJ, 8, .inr (.inl (f8 u0 u1 v2 v3 v4 v5 v6 v7)))), (qh, .inl (cJ, 8, .inr (.inl (f8 w0 w1 w2 w3 w4 w5 u6 u7)))), (qm, .inl (cJ, 8, .inr (.inl (f8 (mixL u0 u2 t) u1 u2 u3 u4 u5 u6 u7))))] := by rw [← f8_0]; exact hD
  refine lv_iinc (v := 1) (lv' := [(4, .int 1), (3, .int 0), (0, .ref hm), (1, .long t)]) hx hb d_M_part_150 hl (k := 0) rfl (by first | exact nI_add _ 1 | rfl | decide) (by decide) rfl (fun ls hl => ?_)
  refine lv_goto (tgt := 110) hx hb d_M_part_153 (by decide) ?_
  refine lv_iload hx hb d_M_part_110 (lv_at hl 0 rfl) ?_
  refine lv_iconst (v := 2) hx hb d_M_part_112 (by decide) ?_
  refine lv_iadd hx hb d_M_part_113 ?_
  refine tp_i (3) (by decide) ?_
  refine lv_bipush (v := 8) hx hb d_M_part_114 (by decide) ?_
  refine lv_iconst (v := 2) hx hb d_M_part_116 (by decide) ?_
  refine lv_iload_n hx hb d_M_part_117 rfl (lv_at hl 1 rfl) ?_
  refine lv_imul hx hb d_M_part_118 ?_
  refine tp_i (0) (by decide) ?_
  refine lv_isub hx hb d_M_part_119 ?_
  refine tp_i (8) (by decide) ?_
  refine bn_ge (a1 := 3) (b1 := 8) (tgt := 156) hx hb (by omega) (by omega) d_M_part_120 (by decide) (fun c_13 => ?_) (fun c_13 => ?_)
  · exact absurd c_13 (by decide)
  refine lv_aload_n hx hb d_M_part_123 rfl (lv_at hl 2 rfl) ?_
  refine va_get (D := D) (ci := 1) (v := .ref qm) (C := R_M) (T := T_M) (N := 7) hx hb hts (ui_M _) hown hK hP 0 rfl rfl 6 (by decide) (hts _ (gwc gw_534)) (fun _ h9 => h9) rfl d_M_part_124 ?_
  refine lv_iload hx hb d_M_part_127 (lv_at hl 0 rfl) ?_
  refine lv_aload_n hx hb d_M_part_129 rfl (lv_at hl 2 rfl) ?_
  refine va_get (D := D) (ci := 1) (v := .ref qm) (C := R_M) (T := T_M) (N := 7) hx hb hts (ui_M _) hown hK hP 0 rfl rfl 6 (by decide) (hts _ (gwc gw_534)) (fun _ h9 => h9) rfl d_M_part_130 ?_
  refine lv_iload hx hb d_M_part_133 (lv_at hl 0 rfl) ?_
  refine ld_l hx hb hK hP 4 2 rfl rfl 1 (by omega) (by omega) d_M_part_135 ?_
  refine tp_l (u1) (rfl) ?_
  refine lv_aload_n hx hb d_M_part_136 rfl (lv_at hl 2 rfl) ?_
  refine va_get (D := D) (ci := 1) (v := .ref qm) (C := R_M) (T := T_M) (N := 7) hx hb hts (ui_M _) hown hK hP 0 rfl rfl 6 (by decide) (hts _ (gwc gw_534)) (fun _ h9 => h9) rfl d_M_part_137 ?_
  refine lv_iload hx hb d_M_part_140 (lv_at hl 0 rfl) ?_
  refine lv_iconst (v := 2) hx hb d_M_part_142 (by decide) ?_
  refine lv_iadd hx hb d_M_part_143 ?_
  refine tp_i (3) (by decide) ?_
  refine ld_l hx hb hK hP 4 2 rfl rfl 3 (by omega) (by omega) d_M_part_144 ?_
  refine tp_l (u3) (rfl) ?_
  refine lv_lload_n hx hb d_M_part_145 rfl (lv_at hl 3 rfl) ?_
  refine ct_callS (av := [.long u1, .long u3, .long t]) (rest := [.int 1, .ref qm]) (wr := [(hm, .inr (1, [.ref a, .ref b, .ref qa, .ref qu, .ref qb, .ref qh, .ref qm])), (qu, .inl (cJ, 8, .inr (.inl (f8 u0 u1 u2 u3 u4 u5 u6 u7)))), (qb, .inl (cJ, 8, .inr (.inl (f8 u0 u1 v2 v3 v4 v5 v6 v7)))), (qh, .inl (cJ, 8, .inr (.inl (f8 w0 w1 w2 w3 w4 w5 u6 u7)))), (qm, .inl (cJ, 8, .inr (.inl (f8 (mixL u0 u2 t) u1 u2 u3 u4 u5 u6 u7))))]) (n := 3) (c_M_mix l D cI cB cJ qQ u1 u3 t ) hx hb hml hown hts (amb_ok qQ) hK hP hD hS hA hM (gi_S gw_669 gw_670 gw_33 gw_671) rfl (by decide +kernel) ⟨by omega, by omega⟩ [] [0, 1, 2, 3, 4] rfl rfl rfl rfl (by decide) rfl hl.1 rfl (Nat.le_of_ble_eq_true rfl) d_M_part_146 ⟨by omega, by omega⟩ (fun u_14 H locs hok hP hD hS => ?_)
  have hP : va_P D cl [(hm, .inr (1, [.ref a, .ref b, .ref qa, .ref qu, .ref qb, .ref qh, .ref qm])), (qu, .inl (cJ, 8, .inr (.inl (f8 u0 u1 u2 u3 u4 u5 u6 u7)))), (qb, .inl (cJ, 8, .inr (.inl (f8 u0 u1 v2 v3 v4 v5 v6 v7)))), (qh, .inl (cJ, 8, .inr (.inl (f8 w0 w1 w2 w3 w4 w5 u6 u7)))), (qm, .inl (cJ, 8, .inr (.inl (f8 (mixL u0 u2 t) u1 u2 u3 u4 u5 u6 u7))))] H := hP
  have hD : va_D A [(hm, .inr (1, [.ref a, .ref b, .ref qa, .ref qu, .ref qb, .ref qh, .ref qm])), (qu, .inl (cJ, 8, .inr (.inl (f8 u0 u1 u2 u3 u4 u5 u6 u7)))), (qb, .inl (cJ, 8, .inr (.inl (f8 u0 u1 v2 v3 v4 v5 v6 v7)))), (qh, .inl (cJ, 8, .inr (.inl (f8 w0 w1 w2 w3 w4 w5 u6 u7)))), (qm, .inl (cJ, 8, .inr (.inl (f8 (mixL u0 u2 t) u1 u2 u3 u4 u5 u6 u7))))] := hD
  refine W.eq (g2 := F0 m 149 ls [.long (mixL u1 u3 t), .int 1, .ref qm]) rfl ?_
  refine st_l hx hb hK hP hD hS 4 2 rfl rfl 1 (by omega) (by omega) d_M_part_149 (fun H locs hP hD hS => ?_)
  have hP : va_P D cl [(hm, .inr (1, [.ref a, .ref b, .ref qa, .ref qu, .ref qb, .ref qh, .ref qm])), (qu, .inl (cJ, 8, .inr (.inl (f8 u0 u1 u2 u3 u4 u5 u6 u7)))), (qb, .inl (cJ, 8, .inr (.inl (f8 u0 u1 v2 v3 v4 v5 v6 v7)))), (qh, .inl (cJ, 8, .inr (.inl (f8 w0 w1 w2 w3 w4 w5 u6 u7)))), (qm, .inl (cJ, 8, .inr (.inl (f8 (mixL u0 u2 t) (mixL u1 u3 t) u2 u3 u4 u5 u6 u7))))] H := by rw [← f8_1]; exact hP
  have hD : va_D A [(hm, .inr (1, [.ref a, .ref b, .ref qa, .ref qu, .ref qb, .ref qh, .ref qm])), (qu, .inl (cJ, 8, .inr (.inl (f8 u0 u1 u2 u3 u4 u5 u6 u7)))), (qb, .inl (cJ, 8, .inr (.inl (f8 u0 u1 v2 v3 v4 v5 v6 v7)))), (qh, .inl (cJ, 8, .inr (.inl (f8 w0 w1 w2 w3 w4 w5 u6 u7)))), (qm, .inl (cJ, 8, .inr (.inl (f8 (mixL u0 u2 t) (mixL u1 u3 t) u2 u3 u4 u5 u6 u7))))] := by rw [← f8_1]; exact hD
  refine lv_iinc (v := 2) (lv' := [(4, .int 2), (3, .int 0), (0, .ref hm), (1, .long t)]) hx hb d_M_part_150 hl (k := 0) rfl (by first | exact nI_add _ 1 | rfl | decide) (by decide) rfl (fun ls hl => ?_)
  refine lv_goto (tgt := 110) hx hb d_M_part_153 (by decide) ?_
  refine lv_iload hx hb d_M_part_110 (lv_at hl 0 rfl) ?_
  refine lv_iconst (v := 2) hx hb d_M_part_112 (by decide) ?_
  refine lv_iadd hx hb d_M_part_113 ?_
  refine tp_i (4) (by decide) ?_
  refine lv_bipush (v := 8) hx hb d_M_part_114 (by decide) ?_
  refine lv_iconst (v := 2) hx hb d_M_part_116 (by decide) ?_
  refine lv_iload_n hx hb d_M_part_117 rfl (lv_at hl 1 rfl) ?_
  refine lv_imul hx hb d_M_part_118 ?_
  refine tp_i (0) (by decide) ?_
  refine lv_isub hx hb d_M_part_119 ?_
  refine tp_i (8) (by decide) ?_
  refine bn_ge (a1 := 4) (b1 := 8) (tgt := 156) hx hb (by omega) (by omega) d_M_part_120 (by decide) (fun c_15 => ?_) (fun c_15 => ?_)
  · exact absurd c_15 (by decide)
  refine lv_aload_n hx hb d_M_part_123 rfl (lv_at hl 2 rfl) ?_
  refine va_get (D := D) (ci := 1) (v := .ref qm) (C := R_M) (T := T_M) (N := 7) hx hb hts (ui_M _) hown hK hP 0 rfl rfl 6 (by decide) (hts _ (gwc gw_534)) (fun _ h9 => h9) rfl d_M_part_124 ?_
  refine lv_iload hx hb d_M_part_127 (lv_at hl 0 rfl) ?_
  refine lv_aload_n hx hb d_M_part_129 rfl (lv_at hl 2 rfl) ?_
  refine va_get (D := D) (ci := 1) (v := .ref qm) (C := R_M) (T := T_M) (N := 7) hx hb hts (ui_M _) hown hK hP 0 rfl rfl 6 (by decide) (hts _ (gwc gw_534)) (fun _ h9 => h9) rfl d_M_part_130 ?_
  refine lv_iload hx hb d_M_part_133 (lv_at hl 0 rfl) ?_
  refine ld_l hx hb hK hP 4 2 rfl rfl 2 (by omega) (by omega) d_M_part_135 ?_
  refine tp_l (u2) (rfl) ?_
  refine lv_aload_n hx hb d_M_part_136 rfl (lv_at hl 2 rfl) ?_
  refine va_get (D := D) (ci := 1) (v := .ref qm) (C := R_M) (T := T_M) (N := 7) hx hb hts (ui_M _) hown hK hP 0 rfl rfl 6 (by decide) (hts _ (gwc gw_534)) (fun _ h9 => h9) rfl d_M_part_137 ?_
  refine lv_iload hx hb d_M_part_140 (lv_at hl 0 rfl) ?_
  refine lv_iconst (v := 2) hx hb d_M_part_142 (by decide) ?_
  refine lv_iadd hx hb d_M_part_143 ?_
  refine tp_i (4) (by decide) ?_
  refine ld_l hx hb hK hP 4 2 rfl rfl 4 (by omega) (by omega) d_M_part_144 ?_
  refine tp_l (u4) (rfl) ?_
  refine lv_lload_n hx hb d_M_part_145 rfl (lv_at hl 3 rfl) ?_
  refine ct_callS (av := [.long u2, .long u4, .long t]) (rest := [.int 2, .ref qm]) (wr := [(hm, .inr (1, [.ref a, .ref b, .ref qa, .ref qu, .ref qb, .ref qh, .ref qm])), (qu, .inl (cJ, 8, .inr (.inl (f8 u0 u1 u2 u3 u4 u5 u6 u7)))), (qb, .inl (cJ, 8, .inr (.inl (f8 u0 u1 v2 v3 v4 v5 v6 v7)))), (qh, .inl (cJ, 8, .inr (.inl (f8 w0 w1 w2 w3 w4 w5 u6 u7)))), (qm, .inl (cJ, 8, .inr (.inl (f8 (mixL u0 u2 t) (mixL u1 u3 t) u2 u3 u4 u5 u6 u7))))]) (n := 3) (c_M_mix l D cI cB cJ qQ u2 u4 t ) hx hb hml hown hts (amb_ok qQ) hK hP hD hS hA hM (gi_S gw_669 gw_670 gw_33 gw_671) rfl (by decide +kernel) ⟨by omega, by omega⟩ [] [0, 1, 2, 3, 4] rfl rfl rfl rfl (by decide) rfl hl.1 rfl (Nat.le_of_ble_eq_true rfl) d_M_part_146 ⟨by omega, by omega⟩ (fun u_16 H locs hok hP hD hS => ?_)
  have hP : va_P D cl [(hm, .inr (1, [.ref a, .ref b, .ref qa, .ref qu, .ref qb, .ref qh, .ref qm])), (qu, .inl (cJ, 8, .inr (.inl (f8 u0 u1 u2 u3 u4 u5 u6 u7)))), (qb, .inl (cJ, 8, .inr (.inl (f8 u0 u1 v2 v3 v4 v5 v6 v7)))), (qh, .inl (cJ, 8, .inr (.inl (f8 w0 w1 w2 w3 w4 w5 u6 u7)))), (qm, .inl (cJ, 8, .inr (.inl (f8 (mixL u0 u2 t) (mixL u1 u3 t) u2 u3 u4 u5 u6 u7))))] H := hP
  have hD : va_D A [(hm, .inr (1, [.ref a, .ref b, .ref qa, .ref qu, .ref qb, .ref qh, .ref qm])), (qu, .inl (cJ, 8, .inr (.inl (f8 u0 u1 u2 u3 u4 u5 u6 u7)))), (qb, .inl (cJ, 8, .inr (.inl (f8 u0 u1 v2 v3 v4 v5 v6 v7)))), (qh, .inl (cJ, 8, .inr (.inl (f8 w0 w1 w2 w3 w4 w5 u6 u7)))), (qm, .inl (cJ, 8, .inr (.inl (f8 (mixL u0 u2 t) (mixL u1 u3 t) u2 u3 u4 u5 u6 u7))))] := hD
  refine W.eq (g2 := F0 m 149 ls [.long (mixL u2 u4 t), .int 2, .ref qm]) rfl ?_
  refine st_l hx hb hK hP hD hS 4 2 rfl rfl 2 (by omega) (by omega) d_M_part_149 (fun H locs hP hD hS => ?_)
  have hP : va_P D cl [(hm, .inr (1, [.ref a, .ref b, .ref qa, .ref qu, .ref qb, .ref qh, .ref qm])), (qu, .inl (cJ, 8, .inr (.inl (f8 u0 u1 u2 u3 u4 u5 u6 u7)))), (qb, .inl (cJ, 8, .inr (.inl (f8 u0 u1 v2 v3 v4 v5 v6 v7)))), (qh, .inl (cJ, 8, .inr (.inl (f8 w0 w1 w2 w3 w4 w5 u6 u7)))), (qm, .inl (cJ, 8, .inr (.inl (f8 (mixL u0 u2 t) (mixL u1 u3 t) (mixL u2 u4 t) u3 u4 u5 u6 u7))))] H := by rw [← f8_2]; exact hP
  have hD : va_D A [(hm, .inr (1, [.ref a, .ref b, .ref qa, .ref qu, .ref qb, .ref qh, .ref qm])), (qu, .inl (cJ, 8, .inr (.inl (f8 u0 u1 u2 u3 u4 u5 u6 u7)))), (qb, .inl (cJ, 8, .inr (.inl (f8 u0 u1 v2 v3 v4 v5 v6 v7)))), (qh, .inl (cJ, 8, .inr (.inl (f8 w0 w1 w2 w3 w4 w5 u6 u7)))), (qm, .inl (cJ, 8, .inr (.inl (f8 (mixL u0 u2 t) (mixL u1 u3 t) (mixL u2 u4 t) u3 u4 u5 u6 u7))))] := by rw [← f8_2]; exact hD
  refine lv_iinc (v := 3) (lv' := [(4, .int 3), (3, .int 0), (0, .ref hm), (1, .long t)]) hx hb d_M_part_150 hl (k := 0) rfl (by first | exact nI_add _ 1 | rfl | decide) (by decide) rfl (fun ls hl => ?_)
  refine lv_goto (tgt := 110) hx hb d_M_part_153 (by decide) ?_
  refine lv_iload hx hb d_M_part_110 (lv_at hl 0 rfl) ?_
  refine lv_iconst (v := 2) hx hb d_M_part_112 (by decide) ?_
  refine lv_iadd hx hb d_M_part_113 ?_
  refine tp_i (5) (by decide) ?_
  refine lv_bipush (v := 8) hx hb d_M_part_114 (by decide) ?_
  refine lv_iconst (v := 2) hx hb d_M_part_116 (by decide) ?_
  refine lv_iload_n hx hb d_M_part_117 rfl (lv_at hl 1 rfl) ?_
  refine lv_imul hx hb d_M_part_118 ?_
  refine tp_i (0) (by decide) ?_
  refine lv_isub hx hb d_M_part_119 ?_
  refine tp_i (8) (by decide) ?_
  refine bn_ge (a1 := 5) (b1 := 8) (tgt := 156) hx hb (by omega) (by omega) d_M_part_120 (by decide) (fun c_17 => ?_) (fun c_17 => ?_)
  · exact absurd c_17 (by decide)
  refine lv_aload_n hx hb d_M_part_123 rfl (lv_at hl 2 rfl) ?_
  refine va_get (D := D) (ci := 1) (v := .ref qm) (C := R_M) (T := T_M) (N := 7) hx hb hts (ui_M _) hown hK hP 0 rfl rfl 6 (by decide) (hts _ (gwc gw_534)) (fun _ h9 => h9) rfl d_M_part_124 ?_
  refine lv_iload hx hb d_M_part_127 (lv_at hl 0 rfl) ?_
  refine lv_aload_n hx hb d_M_part_129 rfl (lv_at hl 2 rfl) ?_
  refine va_get (D := D) (ci := 1) (v := .ref qm) (C := R_M) (T := T_M) (N := 7) hx hb hts (ui_M _) hown hK hP 0 rfl rfl 6 (by decide) (hts _ (gwc gw_534)) (fun _ h9 => h9) rfl d_M_part_130 ?_
  refine lv_iload hx hb d_M_part_133 (lv_at hl 0 rfl) ?_
  refine ld_l hx hb hK hP 4 2 rfl rfl 3 (by omega) (by omega) d_M_part_135 ?_
  refine tp_l (u3) (rfl) ?_
  refine lv_aload_n hx hb d_M_part_136 rfl (lv_at hl 2 rfl) ?_
  refine va_get (D := D) (ci := 1) (v := .ref qm) (C := R_M) (T := T_M) (N := 7) hx hb hts (ui_M _) hown hK hP 0 rfl rfl 6 (by decide) (hts _ (gwc gw_534)) (fun _ h9 => h9) rfl d_M_part_137 ?_
  refine lv_iload hx hb d_M_part_140 (lv_at hl 0 rfl) ?_
  refine lv_iconst (v := 2) hx hb d_M_part_142 (by decide) ?_
  refine lv_iadd hx hb d_M_part_143 ?_
  refine tp_i (5) (by decide) ?_
  refine ld_l hx hb hK hP 4 2 rfl rfl 5 (by omega) (by omega) d_M_part_144 ?_
  refine tp_l (u5) (rfl) ?_
  refine lv_lload_n hx hb d_M_part_145 rfl (lv_at hl 3 rfl) ?_
  refine ct_callS (av := [.long u3, .long u5, .long t]) (rest := [.int 3, .ref qm]) (wr := [(hm, .inr (1, [.ref a, .ref b, .ref qa, .ref qu, .ref qb, .ref qh, .ref qm])), (qu, .inl (cJ, 8, .inr (.inl (f8 u0 u1 u2 u3 u4 u5 u6 u7)))), (qb, .inl (cJ, 8, .inr (.inl (f8 u0 u1 v2 v3 v4 v5 v6 v7)))), (qh, .inl (cJ, 8, .inr (.inl (f8 w0 w1 w2 w3 w4 w5 u6 u7)))), (qm, .inl (cJ, 8, .inr (.inl (f8 (mixL u0 u2 t) (mixL u1 u3 t) (mixL u2 u4 t) u3 u4 u5 u6 u7))))]) (n := 3) (c_M_mix l D cI cB cJ qQ u3 u5 t ) hx hb hml hown hts (amb_ok qQ) hK hP hD hS hA hM (gi_S gw_669 gw_670 gw_33 gw_671) rfl (by decide +kernel) ⟨by omega, by omega⟩ [] [0, 1, 2, 3, 4] rfl rfl rfl rfl (by decide) rfl hl.1 rfl (Nat.le_of_ble_eq_true rfl) d_M_part_146 ⟨by omega, by omega⟩ (fun u_18 H locs hok hP hD hS => ?_)
  have hP : va_P D cl [(hm, .inr (1, [.ref a, .ref b, .ref qa, .ref qu, .ref qb, .ref qh, .ref qm])), (qu, .inl (cJ, 8, .inr (.inl (f8 u0 u1 u2 u3 u4 u5 u6 u7)))), (qb, .inl (cJ, 8, .inr (.inl (f8 u0 u1 v2 v3 v4 v5 v6 v7)))), (qh, .inl (cJ, 8, .inr (.inl (f8 w0 w1 w2 w3 w4 w5 u6 u7)))), (qm, .inl (cJ, 8, .inr (.inl (f8 (mixL u0 u2 t) (mixL u1 u3 t) (mixL u2 u4 t) u3 u4 u5 u6 u7))))] H := hP
  have hD : va_D A [(hm, .inr (1, [.ref a, .ref b, .ref qa, .ref qu, .ref qb, .ref qh, .ref qm])), (qu, .inl (cJ, 8, .inr (.inl (f8 u0 u1 u2 u3 u4 u5 u6 u7)))), (qb, .inl (cJ, 8, .inr (.inl (f8 u0 u1 v2 v3 v4 v5 v6 v7)))), (qh, .inl (cJ, 8, .inr (.inl (f8 w0 w1 w2 w3 w4 w5 u6 u7)))), (qm, .inl (cJ, 8, .inr (.inl (f8 (mixL u0 u2 t) (mixL u1 u3 t) (mixL u2 u4 t) u3 u4 u5 u6 u7))))] := hD
  refine W.eq (g2 := F0 m 149 ls [.long (mixL u3 u5 t), .int 3, .ref qm]) rfl ?_
  refine st_l hx hb hK hP hD hS 4 2 rfl rfl 3 (by omega) (by omega) d_M_part_149 (fun H locs hP hD hS => ?_)
  have hP : va_P D cl [(hm, .inr (1, [.ref a, .ref b, .ref qa, .ref qu, .ref qb, .ref qh, .ref qm])), (qu, .inl (cJ, 8, .inr (.inl (f8 u0 u1 u2 u3 u4 u5 u6 u7)))), (qb, .inl (cJ, 8, .inr (.inl (f8 u0 u1 v2 v3 v4 v5 v6 v7)))), (qh, .inl (cJ, 8, .inr (.inl (f8 w0 w1 w2 w3 w4 w5 u6 u7)))), (qm, .inl (cJ, 8, .inr (.inl (f8 (mixL u0 u2 t) (mixL u1 u3 t) (mixL u2 u4 t) (mixL u3 u5 t) u4 u5 u6 u7))))] H := by rw [← f8_3]; exact hP
  have hD : va_D A [(hm, .inr (1, [.ref a, .ref b, .ref qa, .ref qu, .ref qb, .ref qh, .ref qm])), (qu, .inl (cJ, 8, .inr (.inl (f8 u0 u1 u2 u3 u4 u5 u6 u7)))), (qb, .inl (cJ, 8, .inr (.inl (f8 u0 u1 v2 v3 v4 v5 v6 v7)))), (qh, .inl (cJ, 8, .inr (.inl (f8 w0 w1 w2 w3 w4 w5 u6 u7)))), (qm, .inl (cJ, 8, .inr (.inl (f8 (mixL u0 u2 t) (mixL u1 u3 t) (mixL u2 u4 t) (mixL u3 u5 t) u4 u5 u6 u7))))] := by rw [← f8_3]; exact hD
  refine lv_iinc (v := 4) (lv' := [(4, .int 4), (3, .int 0), (0, .ref hm), (1, .long t)]) hx hb d_M_part_150 hl (k := 0) rfl (by first | exact nI_add _ 1 | rfl | decide) (by decide) rfl (fun ls hl => ?_)
  refine lv_goto (tgt := 110) hx hb d_M_part_153 (by decide) ?_
  refine lv_iload hx hb d_M_part_110 (lv_at hl 0 rfl) ?_
  refine lv_iconst (v := 2) hx hb d_M_part_112 (by decide) ?_
  refine lv_iadd hx hb d_M_part_113 ?_
  refine tp_i (6) (by decide) ?_
  refine lv_bipush (v := 8) hx hb d_M_part_114 (by decide) ?_
  refine lv_iconst (v := 2) hx hb d_M_part_116 (by decide) ?_
  refine lv_iload_n hx hb d_M_part_117 rfl (lv_at hl 1 rfl) ?_
  refine lv_imul hx hb d_M_part_118 ?_
  refine tp_i (0) (by decide) ?_
  refine lv_isub hx hb d_M_part_119 ?_
  refine tp_i (8) (by decide) ?_
  refine bn_ge (a1 := 6) (b1 := 8) (tgt := 156) hx hb (by omega) (by omega) d_M_part_120 (by decide) (fun c_19 => ?_) (fun c_19 => ?_)
  · exact absurd c_19 (by decide)
  refine lv_aload_n hx hb d_M_part_123 rfl (lv_at hl 2 rfl) ?_
  refine va_get (D := D) (ci := 1) (v := .ref qm) (C := R_M) (T := T_M) (N := 7) hx hb hts (ui_M _) hown hK hP 0 rfl rfl 6 (by decide) (hts _ (gwc gw_534)) (fun _ h9 => h9) rfl d_M_part_124 ?_
  refine lv_iload hx hb d_M_part_127 (lv_at hl 0 rfl) ?_
  refine lv_aload_n hx hb d_M_part_129 rfl (lv_at hl 2 rfl) ?_
  refine va_get (D := D) (ci := 1) (v := .ref qm) (C := R_M) (T := T_M) (N := 7) hx hb hts (ui_M _) hown hK hP 0 rfl rfl 6 (by decide) (hts _ (gwc gw_534)) (fun _ h9 => h9) rfl d_M_part_130 ?_
  refine lv_iload hx hb d_M_part_133 (lv_at hl 0 rfl) ?_
  refine ld_l hx hb hK hP 4 2 rfl rfl 4 (by omega) (by omega) d_M_part_135 ?_
  refine tp_l (u4) (rfl) ?_
  refine lv_aload_n hx hb d_M_part_136 rfl (lv_at hl 2 rfl) ?_
  refine va_get (D := D) (ci := 1) (v := .ref qm) (C := R_M) (T := T_M) (N := 7) hx hb hts (ui_M _) hown hK hP 0 rfl rfl 6 (by decide) (hts _ (gwc gw_534)) (fun _ h9 => h9) rfl d_M_part_137 ?_
  refine lv_iload hx hb d_M_part_140 (lv_at hl 0 rfl) ?_
  refine lv_iconst (v := 2) hx hb d_M_part_142 (by decide) ?_
  refine lv_iadd hx hb d_M_part_143 ?_
  refine tp_i (6) (by decide) ?_
  refine ld_l hx hb hK hP 4 2 rfl rfl 6 (by omega) (by omega) d_M_part_144 ?_
  refine tp_l (u6) (rfl) ?_
  refine lv_lload_n hx hb d_M_part_145 rfl (lv_at hl 3 rfl) ?_
  refine ct_callS (av := [.long u4, .long u6, .long t]) (rest := [.int 4, .ref qm]) (wr := [(hm, .inr (1, [.ref a, .ref b, .ref qa, .ref qu, .ref qb, .ref qh, .ref qm])), (qu, .inl (cJ, 8, .inr (.inl (f8 u0 u1 u2 u3 u4 u5 u6 u7)))), (qb, .inl (cJ, 8, .inr (.inl (f8 u0 u1 v2 v3 v4 v5 v6 v7)))), (qh, .inl (cJ, 8, .inr (.inl (f8 w0 w1 w2 w3 w4 w5 u6 u7)))), (qm, .inl (cJ, 8, .inr (.inl (f8 (mixL u0 u2 t) (mixL u1 u3 t) (mixL u2 u4 t) (mixL u3 u5 t) u4 u5 u6 u7))))]) (n := 3) (c_M_mix l D cI cB cJ qQ u4 u6 t ) hx hb hml hown hts (amb_ok qQ) hK hP hD hS hA hM (gi_S gw_669 gw_670 gw_33 gw_671) rfl (by decide +kernel) ⟨by omega, by omega⟩ [] [0, 1, 2, 3, 4] rfl rfl rfl rfl (by decide) rfl hl.1 rfl (Nat.le_of_ble_eq_true rfl) d_M_part_146 ⟨by omega, by omega⟩ (fun u_20 H locs hok hP hD hS => ?_)
  have hP : va_P D cl [(hm, .inr (1, [.ref a, .ref b, .ref qa, .ref qu, .ref qb, .ref qh, .ref qm])), (qu, .inl (cJ, 8, .inr (.inl (f8 u0 u1 u2 u3 u4 u5 u6 u7)))), (qb, .inl (cJ, 8, .inr (.inl (f8 u0 u1 v2 v3 v4 v5 v6 v7)))), (qh, .inl (cJ, 8, .inr (.inl (f8 w0 w1 w2 w3 w4 w5 u6 u7)))), (qm, .inl (cJ, 8, .inr (.inl (f8 (mixL u0 u2 t) (mixL u1 u3 t) (mixL u2 u4 t) (mixL u3 u5 t) u4 u5 u6 u7))))] H := hP
  have hD : va_D A [(hm, .inr (1, [.ref a, .ref b, .ref qa, .ref qu, .ref qb, .ref qh, .ref qm])), (qu, .inl (cJ, 8, .inr (.inl (f8 u0 u1 u2 u3 u4 u5 u6 u7)))), (qb, .inl (cJ, 8, .inr (.inl (f8 u0 u1 v2 v3 v4 v5 v6 v7)))), (qh, .inl (cJ, 8, .inr (.inl (f8 w0 w1 w2 w3 w4 w5 u6 u7)))), (qm, .inl (cJ, 8, .inr (.inl (f8 (mixL u0 u2 t) (mixL u1 u3 t) (mixL u2 u4 t) (mixL u3 u5 t) u4 u5 u6 u7))))] := hD
  refine W.eq (g2 := F0 m 149 ls [.long (mixL u4 u6 t), .int 4, .ref qm]) rfl ?_
  refine st_l hx hb hK hP hD hS 4 2 rfl rfl 4 (by omega) (by omega) d_M_part_149 (fun H locs hP hD hS => ?_)
  have hP : va_P D cl [(hm, .inr (1, [.ref a, .ref b, .ref qa, .ref qu, .ref qb, .ref qh, .ref qm])), (qu, .inl (cJ, 8, .inr (.inl (f8 u0 u1 u2 u3 u4 u5 u6 u7)))), (qb, .inl (cJ, 8, .inr (.inl (f8 u0 u1 v2 v3 v4 v5 v6 v7)))), (qh, .inl (cJ, 8, .inr (.inl (f8 w0 w1 w2 w3 w4 w5 u6 u7)))), (qm, .inl (cJ, 8, .inr (.inl (f8 (mixL u0 u2 t) (mixL u1 u3 t) (mixL u2 u4 t) (mixL u3 u5 t) (mixL u4 u6 t) u5 u6 u7))))] H := by rw [← f8_4]; exact hP
  have hD : va_D A [(hm, .inr (1, [.ref a, .ref b, .ref qa, .ref qu, .ref qb, .ref qh, .ref qm])), (qu, .inl (cJ, 8, .inr (.inl (f8 u0 u1 u2 u3 u4 u5 u6 u7)))), (qb, .inl (cJ, 8, .inr (.inl (f8 u0 u1 v2 v3 v4 v5 v6 v7)))), (qh, .inl (cJ, 8, .inr (.inl (f8 w0 w1 w2 w3 w4 w5 u6 u7)))), (qm, .inl (cJ, 8, .inr (.inl (f8 (mixL u0 u2 t) (mixL u1 u3 t) (mixL u2 u4 t) (mixL u3 u5 t) (mixL u4 u6 t) u5 u6 u7))))] := by rw [← f8_4]; exact hD
  refine lv_iinc (v := 5) (lv' := [(4, .int 5), (3, .int 0), (0, .ref hm), (1, .long t)]) hx hb d_M_part_150 hl (k := 0) rfl (by first | exact nI_add _ 1 | rfl | decide) (by decide) rfl (fun ls hl => ?_)
  refine lv_goto (tgt := 110) hx hb d_M_part_153 (by decide) ?_
  refine lv_iload hx hb d_M_part_110 (lv_at hl 0 rfl) ?_
  refine lv_iconst (v := 2) hx hb d_M_part_112 (by decide) ?_
  refine lv_iadd hx hb d_M_part_113 ?_
  refine tp_i (7) (by decide) ?_
  refine lv_bipush (v := 8) hx hb d_M_part_114 (by decide) ?_
  refine lv_iconst (v := 2) hx hb d_M_part_116 (by decide) ?_
  refine lv_iload_n hx hb d_M_part_117 rfl (lv_at hl 1 rfl) ?_
  refine lv_imul hx hb d_M_part_118 ?_
  refine tp_i (0) (by decide) ?_
  refine lv_isub hx hb d_M_part_119 ?_
  refine tp_i (8) (by decide) ?_
  refine bn_ge (a1 := 7) (b1 := 8) (tgt := 156) hx hb (by omega) (by omega) d_M_part_120 (by decide) (fun c_21 => ?_) (fun c_21 => ?_)
  · exact absurd c_21 (by decide)
  refine lv_aload_n hx hb d_M_part_123 rfl (lv_at hl 2 rfl) ?_
  refine va_get (D := D) (ci := 1) (v := .ref qm) (C := R_M) (T := T_M) (N := 7) hx hb hts (ui_M _) hown hK hP 0 rfl rfl 6 (by decide) (hts _ (gwc gw_534)) (fun _ h9 => h9) rfl d_M_part_124 ?_
  refine lv_iload hx hb d_M_part_127 (lv_at hl 0 rfl) ?_
  refine lv_aload_n hx hb d_M_part_129 rfl (lv_at hl 2 rfl) ?_
  refine va_get (D := D) (ci := 1) (v := .ref qm) (C := R_M) (T := T_M) (N := 7) hx hb hts (ui_M _) hown hK hP 0 rfl rfl 6 (by decide) (hts _ (gwc gw_534)) (fun _ h9 => h9) rfl d_M_part_130 ?_
  refine lv_iload hx hb d_M_part_133 (lv_at hl 0 rfl) ?_
  refine ld_l hx hb hK hP 4 2 rfl rfl 5 (by omega) (by omega) d_M_part_135 ?_
  refine tp_l (u5) (rfl) ?_
  refine lv_aload_n hx hb d_M_part_136 rfl (lv_at hl 2 rfl) ?_
  refine va_get (D := D) (ci := 1) (v := .ref qm) (C := R_M) (T := T_M) (N := 7) hx hb hts (ui_M _) hown hK hP 0 rfl rfl 6 (by decide) (hts _ (gwc gw_534)) (fun _ h9 => h9) rfl d_M_part_137 ?_
  refine lv_iload hx hb d_M_part_140 (lv_at hl 0 rfl) ?_
  refine lv_iconst (v := 2) hx hb d_M_part_142 (by decide) ?_
  refine lv_iadd hx hb d_M_part_143 ?_
  refine tp_i (7) (by decide) ?_
  refine ld_l hx hb hK hP 4 2 rfl rfl 7 (by omega) (by omega) d_M_part_144 ?_
  refine tp_l (u7) (rfl) ?_
  refine lv_lload_n hx hb d_M_part_145 rfl (lv_at hl 3 rfl) ?_
  refine ct_callS (av := [.long u5, .long u7, .long t]) (rest := [.int 5, .ref qm]) (wr := [(hm, .inr (1, [.ref a, .ref b, .ref qa, .ref qu, .ref qb, .ref qh, .ref qm])), (qu, .inl (cJ, 8, .inr (.inl (f8 u0 u1 u2 u3 u4 u5 u6 u7)))), (qb, .inl (cJ, 8, .inr (.inl (f8 u0 u1 v2 v3 v4 v5 v6 v7)))), (qh, .inl (cJ, 8, .inr (.inl (f8 w0 w1 w2 w3 w4 w5 u6 u7)))), (qm, .inl (cJ, 8, .inr (.inl (f8 (mixL u0 u2 t) (mixL u1 u3 t) (mixL u2 u4 t) (mixL u3 u5 t) (mixL u4 u6 t) u5 u6 u7))))]) (n := 3) (c_M_mix l D cI cB cJ qQ u5 u7 t ) hx hb hml hown hts (amb_ok qQ) hK hP hD hS hA hM (gi_S gw_669 gw_670 gw_33 gw_671) rfl (by decide +kernel) ⟨by omega, by omega⟩ [] [0, 1, 2, 3, 4] rfl rfl rfl rfl (by decide) rfl hl.1 rfl (Nat.le_of_ble_eq_true rfl) d_M_part_146 ⟨by omega, by omega⟩ (fun u_22 H locs hok hP hD hS => ?_)
  have hP : va_P D cl [(hm, .inr (1, [.ref a, .ref b, .ref qa, .ref qu, .ref qb, .ref qh, .ref qm])), (qu, .inl (cJ, 8, .inr (.inl (f8 u0 u1 u2 u3 u4 u5 u6 u7)))), (qb, .inl (cJ, 8, .inr (.inl (f8 u0 u1 v2 v3 v4 v5 v6 v7)))), (qh, .inl (cJ, 8, .inr (.inl (f8 w0 w1 w2 w3 w4 w5 u6 u7)))), (qm, .inl (cJ, 8, .inr (.inl (f8 (mixL u0 u2 t) (mixL u1 u3 t) (mixL u2 u4 t) (mixL u3 u5 t) (mixL u4 u6 t) u5 u6 u7))))] H := hP
  have hD : va_D A [(hm, .inr (1, [.ref a, .ref b, .ref qa, .ref qu, .ref qb, .ref qh, .ref qm])), (qu, .inl (cJ, 8, .inr (.inl (f8 u0 u1 u2 u3 u4 u5 u6 u7)))), (qb, .inl (cJ, 8, .inr (.inl (f8 u0 u1 v2 v3 v4 v5 v6 v7)))), (qh, .inl (cJ, 8, .inr (.inl (f8 w0 w1 w2 w3 w4 w5 u6 u7)))), (qm, .inl (cJ, 8, .inr (.inl (f8 (mixL u0 u2 t) (mixL u1 u3 t) (mixL u2 u4 t) (mixL u3 u5 t) (mixL u4 u6 t) u5 u6 u7))))] := hD
  refine W.eq (g2 := F0 m 149 ls [.long (mixL u5 u7 t), .int 5, .ref qm]) rfl ?_
  refine st_l hx hb hK hP hD hS 4 2 rfl rfl 5 (by omega) (by omega) d_M_part_149 (fun H locs hP hD hS => ?_)
  have hP : va_P D cl [(hm, .inr (1, [.ref a, .ref b, .ref qa, .ref qu, .ref qb, .ref qh, .ref qm])), (qu, .inl (cJ, 8, .inr (.inl (f8 u0 u1 u2 u3 u4 u5 u6 u7)))), (qb, .inl (cJ, 8, .inr (.inl (f8 u0 u1 v2 v3 v4 v5 v6 v7)))), (qh, .inl (cJ, 8, .inr (.inl (f8 w0 w1 w2 w3 w4 w5 u6 u7)))), (qm, .inl (cJ, 8, .inr (.inl (f8 (mixL u0 u2 t) (mixL u1 u3 t) (mixL u2 u4 t) (mixL u3 u5 t) (mixL u4 u6 t) (mixL u5 u7 t) u6 u7))))] H := by rw [← f8_5]; exact hP
  have hD : va_D A [(hm, .inr (1, [.ref a, .ref b, .ref qa, .ref qu, .ref qb, .ref qh, .ref qm])), (qu, .inl (cJ, 8, .inr (.inl (f8 u0 u1 u2 u3 u4 u5 u6 u7)))), (qb, .inl (cJ, 8, .inr (.inl (f8 u0 u1 v2 v3 v4 v5 v6 v7)))), (qh, .inl (cJ, 8, .inr (.inl (f8 w0 w1 w2 w3 w4 w5 u6 u7)))), (qm, .inl (cJ, 8, .inr (.inl (f8 (mixL u0 u2 t) (mixL u1 u3 t) (mixL u2 u4 t) (mixL u3 u5 t) (mixL u4 u6 t) (mixL u5 u7 t) u6 u7))))] := by rw [← f8_5]; exact hD
  refine lv_iinc (v := 6) (lv' := [(4, .int 6), (3, .int 0), (0, .ref hm), (1, .long t)]) hx hb d_M_part_150 hl (k := 0) rfl (by first | exact nI_add _ 1 | rfl | decide) (by decide) rfl (fun ls hl => ?_)
  refine lv_goto (tgt := 110) hx hb d_M_part_153 (by decide) ?_
  refine lv_iload hx hb d_M_part_110 (lv_at hl 0 rfl) ?_
  refine lv_iconst (v := 2) hx hb d_M_part_112 (by decide) ?_
  refine lv_iadd hx hb d_M_part_113 ?_
  refine tp_i (8) (by decide) ?_
  refine lv_bipush (v := 8) hx hb d_M_part_114 (by decide) ?_
  refine lv_iconst (v := 2) hx hb d_M_part_116 (by decide) ?_
  refine lv_iload_n hx hb d_M_part_117 rfl (lv_at hl 1 rfl) ?_
  refine lv_imul hx hb d_M_part_118 ?_
  refine tp_i (0) (by decide) ?_
  refine lv_isub hx hb d_M_part_119 ?_
  refine tp_i (8) (by decide) ?_
  refine bn_ge (a1 := 8) (b1 := 8) (tgt := 156) hx hb (by omega) (by omega) d_M_part_120 (by decide) (fun c_23 => ?_) (fun c_23 => ?_)
  rotate_left
  · exact absurd c_23 (by decide)
  refine lv_iinc (v := 1) (lv' := [(3, .int 1), (4, .int 6), (0, .ref hm), (1, .long t)]) hx hb d_M_part_156 hl (k := 1) rfl (by first | exact nI_add _ 1 | rfl | decide) (by decide) rfl (fun ls hl => ?_)
  refine lv_goto (tgt := 28) hx hb d_M_part_159 (by decide) ?_
  refine lv_iload_n hx hb d_M_part_28 rfl (lv_at hl 0 rfl) ?_
  refine lv_iconst (v := 4) hx hb d_M_part_29 (by decide) ?_
  refine bn_ge (a1 := 1) (b1 := 4) (tgt := 162) hx hb (by omega) (by omega) d_M_part_30 (by decide) (fun c_24 => ?_) (fun c_24 => ?_)
  · exact absurd c_24 (by decide)
  refine lv_aload_n hx hb d_M_part_33 rfl (lv_at hl 2 rfl) ?_
  refine va_get (D := D) (ci := 1) (v := .ref qb) (C := R_M) (T := T_M) (N := 7) hx hb hts (ui_M _) hown hK hP 0 rfl rfl 4 (by decide) (hts _ (gwc gw_532)) (fun _ h9 => h9) rfl d_M_part_34 ?_
  refine lv_iconst (v := 2) hx hb d_M_part_37 (by decide) ?_
  refine lv_iload_n hx hb d_M_part_38 rfl (lv_at hl 0 rfl) ?_
  refine lv_imul hx hb d_M_part_39 ?_
  refine tp_i (2) (by decide) ?_
  refine lv_aload_n hx hb d_M_part_40 rfl (lv_at hl 2 rfl) ?_
  refine va_get (D := D) (ci := 1) (v := .ref qm) (C := R_M) (T := T_M) (N := 7) hx hb hts (ui_M _) hown hK hP 0 rfl rfl 6 (by decide) (hts _ (gwc gw_534)) (fun _ h9 => h9) rfl d_M_part_41 ?_
  refine lv_iconst (v := 0) hx hb d_M_part_44 (by decide) ?_
  refine ld_l hx hb hK hP 4 2 rfl rfl 0 (by omega) (by omega) d_M_part_45 ?_
  refine tp_l (mixL u0 u2 t) (rfl) ?_
  refine st_l hx hb hK hP hD hS 2 2 rfl rfl 2 (by omega) (by omega) d_M_part_46 (fun H locs hP hD hS => ?_)
  have hP : va_P D cl [(hm, .inr (1, [.ref a, .ref b, .ref qa, .ref qu, .ref qb, .ref qh, .ref qm])), (qu, .inl (cJ, 8, .inr (.inl (f8 u0 u1 u2 u3 u4 u5 u6 u7)))), (qb, .inl (cJ, 8, .inr (.inl (f8 u0 u1 (mixL u0 u2 t) v3 v4 v5 v6 v7)))), (qh, .inl (cJ, 8, .inr (.inl (f8 w0 w1 w2 w3 w4 w5 u6 u7)))), (qm, .inl (cJ, 8, .inr (.inl (f8 (mixL u0 u2 t) (mixL u1 u3 t) (mixL u2 u4 t) (mixL u3 u5 t) (mixL u4 u6 t) (mixL u5 u7 t) u6 u7))))] H := by rw [← f8_2]; exact hP
  have hD : va_D A [(hm, .inr (1, [.ref a, .ref b, .ref qa, .ref qu, .ref qb, .ref qh, .ref qm])), (qu, .inl (cJ, 8, .inr (.inl (f8 u0 u1 u2 u3 u4 u5 u6 u7)))), (qb, .inl (cJ, 8, .inr (.inl (f8 u0 u1 (mixL u0 u2 t) v3 v4 v5 v6 v7)))), (qh, .inl (cJ, 8, .inr (.inl (f8 w0 w1 w2 w3 w4 w5 u6 u7)))), (qm, .inl (cJ, 8, .inr (.inl (f8 (mixL u0 u2 t) (mixL u1 u3 t) (mixL u2 u4 t) (mixL u3 u5 t) (mixL u4 u6 t) (mixL u5 u7 t) u6 u7))))] := by rw [← f8_2]; exact hD
  refine lv_aload_n hx hb d_M_part_47 rfl (lv_at hl 2 rfl) ?_
  refine va_get (D := D) (ci := 1) (v := .ref qb) (C := R_M) (T := T_M) (N := 7) hx hb hts (ui_M _) hown hK hP 0 rfl rfl 4 (by decide) (hts _ (gwc gw_532)) (fun _ h9 => h9) rfl d_M_part_48 ?_
  refine lv_iconst (v := 2) hx hb d_M_part_51 (by decide) ?_
  refine lv_iload_n hx hb d_M_part_52 rfl (lv_at hl 0 rfl) ?_
  refine lv_imul hx hb d_M_part_53 ?_
  refine tp_i (2) (by decide) ?_
  refine lv_iconst (v := 1) hx hb d_M_part_54 (by decide) ?_
  refine lv_iadd hx hb d_M_part_55 ?_
  refine tp_i (3) (by decide) ?_
  refine lv_aload_n hx hb d_M_part_56 rfl (lv_at hl 2 rfl) ?_
  refine va_get (D := D) (ci := 1) (v := .ref qm) (C := R_M) (T := T_M) (N := 7) hx hb hts (ui_M _) hown hK hP 0 rfl rfl 6 (by decide) (hts _ (gwc gw_534)) (fun _ h9 => h9) rfl d_M_part_57 ?_
  refine lv_iconst (v := 1) hx hb d_M_part_60 (by decide) ?_
  refine ld_l hx hb hK hP 4 2 rfl rfl 1 (by omega) (by omega) d_M_part_61 ?_
  refine tp_l (mixL u1 u3 t) (rfl) ?_
  refine st_l hx hb hK hP hD hS 2 2 rfl rfl 3 (by omega) (by omega) d_M_part_62 (fun H locs hP hD hS => ?_)
  have hP : va_P D cl [(hm, .inr (1, [.ref a, .ref b, .ref qa, .ref qu, .ref qb, .ref qh, .ref qm])), (qu, .inl (cJ, 8, .inr (.inl (f8 u0 u1 u2 u3 u4 u5 u6 u7)))), (qb, .inl (cJ, 8, .inr (.inl (f8 u0 u1 (mixL u0 u2 t) (mixL u1 u3 t) v4 v5 v6 v7)))), (qh, .inl (cJ, 8, .inr (.inl (f8 w0 w1 w2 w3 w4 w5 u6 u7)))), (qm, .inl (cJ, 8, .inr (.inl (f8 (mixL u0 u2 t) (mixL u1 u3 t) (mixL u2 u4 t) (mixL u3 u5 t) (mixL u4 u6 t) (mixL u5 u7 t) u6 u7))))] H := by rw [← f8_3]; exact hP
  have hD : va_D A [(hm, .inr (1, [.ref a, .ref b, .ref qa, .ref qu, .ref qb, .ref qh, .ref qm])), (qu, .inl (cJ, 8, .inr (.inl (f8 u0 u1 u2 u3 u4 u5 u6 u7)))), (qb, .inl (cJ, 8, .inr (.inl (f8 u0 u1 (mixL u0 u2 t) (mixL u1 u3 t) v4 v5 v6 v7)))), (qh, .inl (cJ, 8, .inr (.inl (f8 w0 w1 w2 w3 w4 w5 u6 u7)))), (qm, .inl (cJ, 8, .inr (.inl (f8 (mixL u0 u2 t) (mixL u1 u3 t) (mixL u2 u4 t) (mixL u3 u5 t) (mixL u4 u6 t) (mixL u5 u7 t) u6 u7))))] := by rw [← f8_3]; exact hD
  refine lv_aload_n hx hb d_M_part_63 rfl (lv_at hl 2 rfl) ?_
  refine va_get (D := D) (ci := 1) (v := .ref qh) (C := R_M) (T := T_M) (N := 7) hx hb hts (ui_M _) hown hK hP 0 rfl rfl 5 (by decide) (hts _ (gwc gw_533)) (fun _ h9 => h9) rfl d_M_part_64 ?_
  refine lv_bipush (v := 6) hx hb d_M_part_67 (by decide) ?_
  refine lv_iconst (v := 2) hx hb d_M_part_69 (by decide) ?_
  refine lv_iload_n hx hb d_M_part_70 rfl (lv_at hl 0 rfl) ?_
  refine lv_imul hx hb d_M_part_71 ?_
  refine tp_i (2) (by decide) ?_
  refine lv_isub hx hb d_M_part_72 ?_
  refine tp_i (4) (by decide) ?_
  refine lv_aload_n hx hb d_M_part_73 rfl (lv_at hl 2 rfl) ?_
  refine va_get (D := D) (ci := 1) (v := .ref qm) (C := R_M) (T := T_M) (N := 7) hx hb hts (ui_M _) hown hK hP 0 rfl rfl 6 (by decide) (hts _ (gwc gw_534)) (fun _ h9 => h9) rfl d_M_part_74 ?_
  refine lv_bipush (v := 6) hx hb d_M_part_77 (by decide) ?_
  refine lv_iconst (v := 2) hx hb d_M_part_79 (by decide) ?_
  refine lv_iload_n hx hb d_M_part_80 rfl (lv_at hl 0 rfl) ?_
  refine lv_imul hx hb d_M_part_81 ?_
  refine tp_i (2) (by decide) ?_
  refine lv_isub hx hb d_M_part_82 ?_
  refine tp_i (4) (by decide) ?_
  refine ld_l hx hb hK hP 4 2 rfl rfl 4 (by omega) (by omega) d_M_part_83 ?_
  refine tp_l (mixL u4 u6 t) (rfl) ?_
  refine st_l hx hb hK hP hD hS 3 2 rfl rfl 4 (by omega) (by omega) d_M_part_84 (fun H locs hP hD hS => ?_)
  have hP : va_P D cl [(hm, .inr (1, [.ref a, .ref b, .ref qa, .ref qu, .ref qb, .ref qh, .ref qm])), (qu, .inl (cJ, 8, .inr (.inl (f8 u0 u1 u2 u3 u4 u5 u6 u7)))), (qb, .inl (cJ, 8, .inr (.inl (f8 u0 u1 (mixL u0 u2 t) (mixL u1 u3 t) v4 v5 v6 v7)))), (qh, .inl (cJ, 8, .inr (.inl (f8 w0 w1 w2 w3 (mixL u4 u6 t) w5 u6 u7)))), (qm, .inl (cJ, 8, .inr (.inl (f8 (mixL u0 u2 t) (mixL u1 u3 t) (mixL u2 u4 t) (mixL u3 u5 t) (mixL u4 u6 t) (mixL u5 u7 t) u6 u7))))] H := by rw [← f8_4]; exact hP
  have hD : va_D A [(hm, .inr (1, [.ref a, .ref b, .ref qa, .ref qu, .ref qb, .ref qh, .ref qm])), (qu, .inl (cJ, 8, .inr (.inl (f8 u0 u1 u2 u3 u4 u5 u6 u7)))), (qb, .inl (cJ, 8, .inr (.inl (f8 u0 u1 (mixL u0 u2 t) (mixL u1 u3 t) v4 v5 v6 v7)))), (qh, .inl (cJ, 8, .inr (.inl (f8 w0 w1 w2 w3 (mixL u4 u6 t) w5 u6 u7)))), (qm, .inl (cJ, 8, .inr (.inl (f8 (mixL u0 u2 t) (mixL u1 u3 t) (mixL u2 u4 t) (mixL u3 u5 t) (mixL u4 u6 t) (mixL u5 u7 t) u6 u7))))] := by rw [← f8_4]; exact hD
  refine lv_aload_n hx hb d_M_part_85 rfl (lv_at hl 2 rfl) ?_
  refine va_get (D := D) (ci := 1) (v := .ref qh) (C := R_M) (T := T_M) (N := 7) hx hb hts (ui_M _) hown hK hP 0 rfl rfl 5 (by decide) (hts _ (gwc gw_533)) (fun _ h9 => h9) rfl d_M_part_86 ?_
  refine lv_bipush (v := 7) hx hb d_M_part_89 (by decide) ?_
  refine lv_iconst (v := 2) hx hb d_M_part_91 (by decide) ?_
  refine lv_iload_n hx hb d_M_part_92 rfl (lv_at hl 0 rfl) ?_
  refine lv_imul hx hb d_M_part_93 ?_
  refine tp_i (2) (by decide) ?_
  refine lv_isub hx hb d_M_part_94 ?_
  refine tp_i (5) (by decide) ?_
  refine lv_aload_n hx hb d_M_part_95 rfl (lv_at hl 2 rfl) ?_
  refine va_get (D := D) (ci := 1) (v := .ref qm) (C := R_M) (T := T_M) (N := 7) hx hb hts (ui_M _) hown hK hP 0 rfl rfl 6 (by decide) (hts _ (gwc gw_534)) (fun _ h9 => h9) rfl d_M_part_96 ?_
  refine lv_bipush (v := 7) hx hb d_M_part_99 (by decide) ?_
  refine lv_iconst (v := 2) hx hb d_M_part_101 (by decide) ?_
  refine lv_iload_n hx hb d_M_part_102 rfl (lv_at hl 0 rfl) ?_
  refine lv_imul hx hb d_M_part_103 ?_
  refine tp_i (2) (by decide) ?_
  refine lv_isub hx hb d_M_part_104 ?_
  refine tp_i (5) (by decide) ?_
  refine ld_l hx hb hK hP 4 2 rfl rfl 5 (by omega) (by omega) d_M_part_105 ?_
  refine tp_l (mixL u5 u7 t) (rfl) ?_
  refine st_l hx hb hK hP hD hS 3 2 rfl rfl 5 (by omega) (by omega) d_M_part_106 (fun H locs hP hD hS => ?_)
  have hP : va_P D cl [(hm, .inr (1, [.ref a, .ref b, .ref qa, .ref qu, .ref qb, .ref qh, .ref qm])), (qu, .inl (cJ, 8, .inr (.inl (f8 u0 u1 u2 u3 u4 u5 u6 u7)))), (qb, .inl (cJ, 8, .inr (.inl (f8 u0 u1 (mixL u0 u2 t) (mixL u1 u3 t) v4 v5 v6 v7)))), (qh, .inl (cJ, 8, .inr (.inl (f8 w0 w1 w2 w3 (mixL u4 u6 t) (mixL u5 u7 t) u6 u7)))), (qm, .inl (cJ, 8, .inr (.inl (f8 (mixL u0 u2 t) (mixL u1 u3 t) (mixL u2 u4 t) (mixL u3 u5 t) (mixL u4 u6 t) (mixL u5 u7 t) u6 u7))))] H := by rw [← f8_5]; exact hP
  have hD : va_D A [(hm, .inr (1, [.ref a, .ref b, .ref qa, .ref qu, .ref qb, .ref qh, .ref qm])), (qu, .inl (cJ, 8, .inr (.inl (f8 u0 u1 u2 u3 u4 u5 u6 u7)))), (qb, .inl (cJ, 8, .inr (.inl (f8 u0 u1 (mixL u0 u2 t) (mixL u1 u3 t) v4 v5 v6 v7)))), (qh, .inl (cJ, 8, .inr (.inl (f8 w0 w1 w2 w3 (mixL u4 u6 t) (mixL u5 u7 t) u6 u7)))), (qm, .inl (cJ, 8, .inr (.inl (f8 (mixL u0 u2 t) (mixL u1 u3 t) (mixL u2 u4 t) (mixL u3 u5 t) (mixL u4 u6 t) (mixL u5 u7 t) u6 u7))))] := by rw [← f8_5]; exact hD
  refine lv_iconst (v := 0) hx hb d_M_part_107 (by decide) ?_
  refine lv_istore (lv' := [(4, .int 0), (3, .int 1), (0, .ref hm), (1, .long t)]) hx hb d_M_part_108 hl (by decide) rfl (fun ls hl => ?_)
  refine lv_iload hx hb d_M_part_110 (lv_at hl 0 rfl) ?_
  refine lv_iconst (v := 2) hx hb d_M_part_112 (by decide) ?_
  refine lv_iadd hx hb d_M_part_113 ?_
  refine tp_i (2) (by decide) ?_
  refine lv_bipush (v := 8) hx hb d_M_part_114 (by decide) ?_
  refine lv_iconst (v := 2) hx hb d_M_part_116 (by decide) ?_
  refine lv_iload_n hx hb d_M_part_117 rfl (lv_at hl 1 rfl) ?_
  refine lv_imul hx hb d_M_part_118 ?_
  refine tp_i (2) (by decide) ?_
  refine lv_isub hx hb d_M_part_119 ?_
  refine tp_i (6) (by decide) ?_
  refine bn_ge (a1 := 2) (b1 := 6) (tgt := 156) hx hb (by omega) (by omega) d_M_part_120 (by decide) (fun c_25 => ?_) (fun c_25 => ?_)
  · exact absurd c_25 (by decide)
  refine lv_aload_n hx hb d_M_part_123 rfl (lv_at hl 2 rfl) ?_
  refine va_get (D := D) (ci := 1) (v := .ref qm) (C := R_M) (T := T_M) (N := 7) hx hb hts (ui_M _) hown hK hP 0 rfl rfl 6 (by decide) (hts _ (gwc gw_534)) (fun _ h9 => h9) rfl d_M_part_124 ?_
  refine lv_iload hx hb d_M_part_127 (lv_at hl 0 rfl) ?_
  refine lv_aload_n hx hb d_M_part_129 rfl (lv_at hl 2 rfl) ?_
  refine va_get (D := D) (ci := 1) (v := .ref qm) (C := R_M) (T := T_M) (N := 7) hx hb hts (ui_M _) hown hK hP 0 rfl rfl 6 (by decide) (hts _ (gwc gw_534)) (fun _ h9 => h9) rfl d_M_part_130 ?_
  refine lv_iload hx hb d_M_part_133 (lv_at hl 0 rfl) ?_
  refine ld_l hx hb hK hP 4 2 rfl rfl 0 (by omega) (by omega) d_M_part_135 ?_
  refine tp_l (mixL u0 u2 t) (rfl) ?_
  refine lv_aload_n hx hb d_M_part_136 rfl (lv_at hl 2 rfl) ?_
  refine va_get (D := D) (ci := 1) (v := .ref qm) (C := R_M) (T := T_M) (N := 7) hx hb hts (ui_M _) hown hK hP 0 rfl rfl 6 (by decide) (hts _ (gwc gw_534)) (fun _ h9 => h9) rfl d_M_part_137 ?_
  refine lv_iload hx hb d_M_part_140 (lv_at hl 0 rfl) ?_
  refine lv_iconst (v := 2) hx hb d_M_part_142 (by decide) ?_
  refine lv_iadd hx hb d_M_part_143 ?_
  refine tp_i (2) (by decide) ?_
  refine ld_l hx hb hK hP 4 2 rfl rfl 2 (by omega) (by omega) d_M_part_144 ?_
  refine tp_l (mixL u2 u4 t) (rfl) ?_
  refine lv_lload_n hx hb d_M_part_145 rfl (lv_at hl 3 rfl) ?_
  refine ct_callS (av := [.long (mixL u0 u2 t), .long (mixL u2 u4 t), .long t]) (rest := [.int 0, .ref qm]) (wr := [(hm, .inr (1, [.ref a, .ref b, .ref qa, .ref qu, .ref qb, .ref qh, .ref qm])), (qu, .inl (cJ, 8, .inr (.inl (f8 u0 u1 u2 u3 u4 u5 u6 u7)))), (qb, .inl (cJ, 8, .inr (.inl (f8 u0 u1 (mixL u0 u2 t) (mixL u1 u3 t) v4 v5 v6 v7)))), (qh, .inl (cJ, 8, .inr (.inl (f8 w0 w1 w2 w3 (mixL u4 u6 t) (mixL u5 u7 t) u6 u7)))), (qm, .inl (cJ, 8, .inr (.inl (f8 (mixL u0 u2 t) (mixL u1 u3 t) (mixL u2 u4 t) (mixL u3 u5 t) (mixL u4 u6 t) (mixL u5 u7 t) u6 u7))))]) (n := 3) (c_M_mix l D cI cB cJ qQ (mixL u0 u2 t) (mixL u2 u4 t) t ) hx hb hml hown hts (amb_ok qQ) hK hP hD hS hA hM (gi_S gw_669 gw_670 gw_33 gw_671) rfl (by decide +kernel) ⟨by omega, by omega⟩ [] [0, 1, 2, 3, 4] rfl rfl rfl rfl (by decide) rfl hl.1 rfl (Nat.le_of_ble_eq_true rfl) d_M_part_146 ⟨by omega, by omega⟩ (fun u_26 H locs hok hP hD hS => ?_)
  have hP : va_P D cl [(hm, .inr (1, [.ref a, .ref b, .ref qa, .ref qu, .ref qb, .ref qh, .ref qm])), (qu, .inl (cJ, 8, .inr (.inl (f8 u0 u1 u2 u3 u4 u5 u6 u7)))), (qb, .inl (cJ, 8, .inr (.inl (f8 u0 u1 (mixL u0 u2 t) (mixL u1 u3 t) v4 v5 v6 v7)))), (qh, .inl (cJ, 8, .inr (.inl (f8 w0 w1 w2 w3 (mixL u4 u6 t) (mixL u5 u7 t) u6 u7)))), (qm, .inl (cJ, 8, .inr (.inl (f8 (mixL u0 u2 t) (mixL u1 u3 t) (mixL u2 u4 t) (mixL u3 u5 t) (mixL u4 u6 t) (mixL u5 u7 t) u6 u7))))] H := hP
  have hD : va_D A [(hm, .inr (1, [.ref a, .ref b, .ref qa, .ref qu, .ref qb, .ref qh, .ref qm])), (qu, .inl (cJ, 8, .inr (.inl (f8 u0 u1 u2 u3 u4 u5 u6 u7)))), (qb, .inl (cJ, 8, .inr (.inl (f8 u0 u1 (mixL u0 u2 t) (mixL u1 u3 t) v4 v5 v6 v7)))), (qh, .inl (cJ, 8, .inr (.inl (f8 w0 w1 w2 w3 (mixL u4 u6 t) (mixL u5 u7 t) u6 u7)))), (qm, .inl (cJ, 8, .inr (.inl (f8 (mixL u0 u2 t) (mixL u1 u3 t) (mixL u2 u4 t) (mixL u3 u5 t) (mixL u4 u6 t) (mixL u5 u7 t) u6 u7))))] := hD
  refine W.eq (g2 := F0 m 149 ls [.long (mixL (mixL u0 u2 t) (mixL u2 u4 t) t), .int 0, .ref qm]) rfl ?_
  refine st_l hx hb hK hP hD hS 4 2 rfl rfl 0 (by omega) (by omega) d_M_part_149 (fun H locs hP hD hS => ?_)
  have hP : va_P D cl [(hm, .inr (1, [.ref a, .ref b, .ref qa, .ref qu, .ref qb, .ref qh, .ref qm])), (qu, .inl (cJ, 8, .inr (.inl (f8 u0 u1 u2 u3 u4 u5 u6 u7)))), (qb, .inl (cJ, 8, .inr (.inl (f8 u0 u1 (mixL u0 u2 t) (mixL u1 u3 t) v4 v5 v6 v7)))), (qh, .inl (cJ, 8, .inr (.inl (f8 w0 w1 w2 w3 (mixL u4 u6 t) (mixL u5 u7 t) u6 u7)))), (qm, .inl (cJ, 8, .inr (.inl (f8 (mixL (mixL u0 u2 t) (mixL u2 u4 t) t) (mixL u1 u3 t) (mixL u2 u4 t) (mixL u3 u5 t) (mixL u4 u6 t) (mixL u5 u7 t) u6 u7))))] H := by rw [← f8_0]; exact hP
  have hD : va_D A [(hm, .inr (1, [.ref a, .ref b, .ref qa, .ref qu, .ref qb, .ref qh, .ref qm])), (qu, .inl (cJ, 8, .inr (.inl (f8 u0 u1 u2 u3 u4 u5 u6 u7)))), (qb, .inl (cJ, 8, .inr (.inl (f8 u0 u1 (mixL u0 u2 t) (mixL u1 u3 t) v4 v5 v6 v7)))), (qh, .inl (cJ, 8, .inr (.inl (f8 w0 w1 w2 w3 (mixL u4 u6 t) (mixL u5 u7 t) u6 u7)))), (qm, .inl (cJ, 8, .inr (.inl (f8 (mixL (mixL u0 u2 t) (mixL u2 u4 t) t) (mixL u1 u3 t) (mixL u2 u4 t) (mixL u3 u5 t) (mixL u4 u6 t) (mixL u5 u7 t) u6 u7))))] := by rw [← f8_0]; exact hD
  refine lv_iinc (v := 1) (lv' := [(4, .int 1), (3, .int 1), (0, .ref hm), (1, .long t)]) hx hb d_M_part_150 hl (k := 0) rfl (by first | exact nI_add _ 1 | rfl | decide) (by decide) rfl (fun ls hl => ?_)
  refine lv_goto (tgt := 110) hx hb d_M_part_153 (by decide) ?_
  refine lv_iload hx hb d_M_part_110 (lv_at hl 0 rfl) ?_
  refine lv_iconst (v := 2) hx hb d_M_part_112 (by decide) ?_
  refine lv_iadd hx hb d_M_part_113 ?_
  refine tp_i (3) (by decide) ?_
  refine lv_bipush (v := 8) hx hb d_M_part_114 (by decide) ?_
  refine lv_iconst (v := 2) hx hb d_M_part_116 (by decide) ?_
  refine lv_iload_n hx hb d_M_part_117 rfl (lv_at hl 1 rfl) ?_
  refine lv_imul hx hb d_M_part_118 ?_
  refine tp_i (2) (by decide) ?_
  refine lv_isub hx hb d_M_part_119 ?_
  refine tp_i (6) (by decide) ?_
  refine bn_ge (a1 := 3) (b1 := 6) (tgt := 156) hx hb (by omega) (by omega) d_M_part_120 (by decide) (fun c_27 => ?_) (fun c_27 => ?_)
  · exact absurd c_27 (by decide)
  refine lv_aload_n hx hb d_M_part_123 rfl (lv_at hl 2 rfl) ?_
  refine va_get (D := D) (ci := 1) (v := .ref qm) (C := R_M) (T := T_M) (N := 7) hx hb hts (ui_M _) hown hK hP 0 rfl rfl 6 (by decide) (hts _ (gwc gw_534)) (fun _ h9 => h9) rfl d_M_part_124 ?_
  refine lv_iload hx hb d_M_part_127 (lv_at hl 0 rfl) ?_
  refine lv_aload_n hx hb d_M_part_129 rfl (lv_at hl 2 rfl) ?_
  refine va_get (D := D) (ci := 1) (v := .ref qm) (C := R_M) (T := T_M) (N := 7) hx hb hts (ui_M _) hown hK hP 0 rfl rfl 6 (by decide) (hts _ (gwc gw_534)) (fun _ h9 => h9) rfl d_M_part_130 ?_
  refine lv_iload hx hb d_M_part_133 (lv_at hl 0 rfl) ?_
  refine ld_l hx hb hK hP 4 2 rfl rfl 1 (by omega) (by omega) d_M_part_135 ?_
  refine tp_l (mixL u1 u3 t) (rfl) ?_
  refine lv_aload_n hx hb d_M_part_136 rfl (lv_at hl 2 rfl) ?_
  refine va_get (D := D) (ci := 1) (v := .ref qm) (C := R_M) (T := T_M) (N := 7) hx hb hts (ui_M _) hown hK hP 0 rfl rfl 6 (by decide) (hts _ (gwc gw_534)) (fun _ h9 => h9) rfl d_M_part_137 ?_
  refine lv_iload hx hb d_M_part_140 (lv_at hl 0 rfl) ?_
  refine lv_iconst (v := 2) hx hb d_M_part_142 (by decide) ?_
  refine lv_iadd hx hb d_M_part_143 ?_
  refine tp_i (3) (by decide) ?_
  refine ld_l hx hb hK hP 4 2 rfl rfl 3 (by omega) (by omega) d_M_part_144 ?_
  refine tp_l (mixL u3 u5 t) (rfl) ?_
  refine lv_lload_n hx hb d_M_part_145 rfl (lv_at hl 3 rfl) ?_
  refine ct_callS (av := [.long (mixL u1 u3 t), .long (mixL u3 u5 t), .long t]) (rest := [.int 1, .ref qm]) (wr := [(hm, .inr (1, [.ref a, .ref b, .ref qa, .ref qu, .ref qb, .ref qh, .ref qm])), (qu, .inl (cJ, 8, .inr (.inl (f8 u0 u1 u2 u3 u4 u5 u6 u7)))), (qb, .inl (cJ, 8, .inr (.inl (f8 u0 u1 (mixL u0 u2 t) (mixL u1 u3 t) v4 v5 v6 v7)))), (qh, .inl (cJ, 8, .inr (.inl (f8 w0 w1 w2 w3 (mixL u4 u6 t) (mixL u5 u7 t) u6 u7)))), (qm, .inl (cJ, 8, .inr (.inl (f8 (mixL (mixL u0 u2 t) (mixL u2 u4 t) t) (mixL u1 u3 t) (mixL u2 u4 t) (mixL u3 u5 t) (mixL u4 u6 t) (mixL u5 u7 t) u6 u7))))]) (n := 3) (c_M_mix l D cI cB cJ qQ (mixL u1 u3 t) (mixL u3 u5 t) t ) hx hb hml hown hts (amb_ok qQ) hK hP hD hS hA hM (gi_S gw_669 gw_670 gw_33 gw_671) rfl (by decide +kernel) ⟨by omega, by omega⟩ [] [0, 1, 2, 3, 4] rfl rfl rfl rfl (by decide) rfl hl.1 rfl (Nat.le_of_ble_eq_true rfl) d_M_part_146 ⟨by omega, by omega⟩ (fun u_28 H locs hok hP hD hS => ?_)
  have hP : va_P D cl [(hm, .inr (1, [.ref a, .ref b, .ref qa, .ref qu, .ref qb, .ref qh, .ref qm])), (qu, .inl (cJ, 8, .inr (.inl (f8 u0 u1 u2 u3 u4 u5 u6 u7)))), (qb, .inl (cJ, 8, .inr (.inl (f8 u0 u1 (mixL u0 u2 t) (mixL u1 u3 t) v4 v5 v6 v7)))), (qh, .inl (cJ, 8, .inr (.inl (f8 w0 w1 w2 w3 (mixL u4 u6 t) (mixL u5 u7 t) u6 u7)))), (qm, .inl (cJ, 8, .inr (.inl (f8 (mixL (mixL u0 u2 t) (mixL u2 u4 t) t) (mixL u1 u3 t) (mixL u2 u4 t) (mixL u3 u5 t) (mixL u4 u6 t) (mixL u5 u7 t) u6 u7))))] H := hP
  have hD : va_D A [(hm, .inr (1, [.ref a, .ref b, .ref qa, .ref qu, .ref qb, .ref qh, .ref qm])), (qu, .inl (cJ, 8, .inr (.inl (f8 u0 u1 u2 u3 u4 u5 u6 u7)))), (qb, .inl (cJ, 8, .inr (.inl (f8 u0 u1 (mixL u0 u2 t) (mixL u1 u3 t) v4 v5 v6 v7)))), (qh, .inl (cJ, 8, .inr (.inl (f8 w0 w1 w2 w3 (mixL u4 u6 t) (mixL u5 u7 t) u6 u7)))), (qm, .inl (cJ, 8, .inr (.inl (f8 (mixL (mixL u0 u2 t) (mixL u2 u4 t) t) (mixL u1 u3 t) (mixL u2 u4 t) (mixL u3 u5 t) (mixL u4 u6 t) (mixL u5 u7 t) u6 u7))))] := hD
  refine W.eq (g2 := F0 m 149 ls [.long (mixL (mixL u1 u3 t) (mixL u3 u5 t) t), .int 1, .ref qm]) rfl ?_
  refine st_l hx hb hK hP hD hS 4 2 rfl rfl 1 (by omega) (by omega) d_M_part_149 (fun H locs hP hD hS => ?_)
  have hP : va_P D cl [(hm, .inr (1, [.ref a, .ref b, .ref qa, .ref qu, .ref qb, .ref qh, .ref qm])), (qu, .inl (cJ, 8, .inr (.inl (f8 u0 u1 u2 u3 u4 u5 u6 u7)))), (qb, .inl (cJ, 8, .inr (.inl (f8 u0 u1 (mixL u0 u2 t) (mixL u1 u3 t) v4 v5 v6 v7)))), (qh, .inl (cJ, 8, .inr (.inl (f8 w0 w1 w2 w3 (mixL u4 u6 t) (mixL u5 u7 t) u6 u7)))), (qm, .inl (cJ, 8, .inr (.inl (f8 (mixL (mixL u0 u2 t) (mixL u2 u4 t) t) (mixL (mixL u1 u3 t) (mixL u3 u5 t) t) (mixL u2 u4 t) (mixL u3 u5 t) (mixL u4 u6 t) (mixL u5 u7 t) u6 u7))))] H := by rw [← f8_1]; exact hP
  have hD : va_D A [(hm, .inr (1, [.ref a, .ref b, .ref qa, .ref qu, .ref qb, .ref qh, .ref qm])), (qu, .inl (cJ, 8, .inr (.inl (f8 u0 u1 u2 u3 u4 u5 u6 u7)))), (qb, .inl (cJ, 8, .inr (.inl (f8 u0 u1 (mixL u0 u2 t) (mixL u1 u3 t) v4 v5 v6 v7)))), (qh, .inl (cJ, 8, .inr (.inl (f8 w0 w1 w2 w3 (mixL u4 u6 t) (mixL u5 u7 t) u6 u7)))), (qm, .inl (cJ, 8, .inr (.inl (f8 (mixL (mixL u0 u2 t) (mixL u2 u4 t) t) (mixL (mixL u1 u3 t) (mixL u3 u5 t) t) (mixL u2 u4 t) (mixL u3 u5 t) (mixL u4 u6 t) (mixL u5 u7 t) u6 u7))))] := by rw [← f8_1]; exact hD
  refine lv_iinc (v := 2) (lv' := [(4, .int 2), (3, .int 1), (0, .ref hm), (1, .long t)]) hx hb d_M_part_150 hl (k := 0) rfl (by first | exact nI_add _ 1 | rfl | decide) (by decide) rfl (fun ls hl => ?_)
  refine lv_goto (tgt := 110) hx hb d_M_part_153 (by decide) ?_
  refine lv_iload hx hb d_M_part_110 (lv_at hl 0 rfl) ?_
  refine lv_iconst (v := 2) hx hb d_M_part_112 (by decide) ?_
  refine lv_iadd hx hb d_M_part_113 ?_
  refine tp_i (4) (by decide) ?_
  refine lv_bipush (v := 8) hx hb d_M_part_114 (by decide) ?_
  refine lv_iconst (v := 2) hx hb d_M_part_116 (by decide) ?_
  refine lv_iload_n hx hb d_M_part_117 rfl (lv_at hl 1 rfl) ?_
  refine lv_imul hx hb d_M_part_118 ?_
  refine tp_i (2) (by decide) ?_
  refine lv_isub hx hb d_M_part_119 ?_
  refine tp_i (6) (by decide) ?_
  refine bn_ge (a1 := 4) (b1 := 6) (tgt := 156) hx hb (by omega) (by omega) d_M_part_120 (by decide) (fun c_29 => ?_) (fun c_29 => ?_)
  · exact absurd c_29 (by decide)
  refine lv_aload_n hx hb d_M_part_123 rfl (lv_at hl 2 rfl) ?_
  refine va_get (D := D) (ci := 1) (v := .ref qm) (C := R_M) (T := T_M) (N := 7) hx hb hts (ui_M _) hown hK hP 0 rfl rfl 6 (by decide) (hts _ (gwc gw_534)) (fun _ h9 => h9) rfl d_M_part_124 ?_
  refine lv_iload hx hb d_M_part_127 (lv_at hl 0 rfl) ?_
  refine lv_aload_n hx hb d_M_part_129 rfl (lv_at hl 2 rfl) ?_
  refine va_get (D := D) (ci := 1) (v := .ref qm) (C := R_M) (T := T_M) (N := 7) hx hb hts (ui_M _) hown hK hP 0 rfl rfl 6 (by decide) (hts _ (gwc gw_534)) (fun _ h9 => h9) rfl d_M_part_130 ?_
  refine lv_iload hx hb d_M_part_133 (lv_at hl 0 rfl) ?_
  refine ld_l hx hb hK hP 4 2 rfl rfl 2 (by omega) (by omega) d_M_part_135 ?_
  refine tp_l (mixL u2 u4 t) (rfl) ?_
  refine lv_aload_n hx hb d_M_part_136 rfl (lv_at hl 2 rfl) ?_
  refine va_get (D := D) (ci := 1) (v := .ref qm) (C := R_M) (T := T_M) (N := 7) hx hb hts (ui_M _) hown hK hP 0 rfl rfl 6 (by decide) (hts _ (gwc gw_534)) (fun _ h9 => h9) rfl d_M_part_137 ?_
  refine lv_iload hx hb d_M_part_140 (lv_at hl 0 rfl) ?_
  refine lv_iconst (v := 2) hx hb d_M_part_142 (by decide) ?_
  refine lv_iadd hx hb d_M_part_143 ?_
  refine tp_i (4) (by decide) ?_
  refine ld_l hx hb hK hP 4 2 rfl rfl 4 (by omega) (by omega) d_M_part_144 ?_
  refine tp_l (mixL u4 u6 t) (rfl) ?_
  refine lv_lload_n hx hb d_M_part_145 rfl (lv_at hl 3 rfl) ?_
  refine ct_callS (av := [.long (mixL u2 u4 t), .long (mixL u4 u6 t), .long t]) (rest := [.int 2, .ref qm]) (wr := [(hm, .inr (1, [.ref a, .ref b, .ref qa, .ref qu, .ref qb, .ref qh, .ref qm])), (qu, .inl (cJ, 8, .inr (.inl (f8 u0 u1 u2 u3 u4 u5 u6 u7)))), (qb, .inl (cJ, 8, .inr (.inl (f8 u0 u1 (mixL u0 u2 t) (mixL u1 u3 t) v4 v5 v6 v7)))), (qh, .inl (cJ, 8, .inr (.inl (f8 w0 w1 w2 w3 (mixL u4 u6 t) (mixL u5 u7 t) u6 u7)))), (qm, .inl (cJ, 8, .inr (.inl (f8 (mixL (mixL u0 u2 t) (mixL u2 u4 t) t) (mixL (mixL u1 u3 t) (mixL u3 u5 t) t) (mixL u2 u4 t) (mixL u3 u5 t) (mixL u4 u6 t) (mixL u5 u7 t) u6 u7))))]) (n := 3) (c_M_mix l D cI cB cJ qQ (mixL u2 u4 t) (mixL u4 u6 t) t ) hx hb hml hown hts (amb_ok qQ) hK hP hD hS hA hM (gi_S gw_669 gw_670 gw_33 gw_671) rfl (by decide +kernel) ⟨by omega, by omega⟩ [] [0, 1, 2, 3, 4] rfl rfl rfl rfl (by decide) rfl hl.1 rfl (Nat.le_of_ble_eq_true rfl) d_M_part_146 ⟨by omega, by omega⟩ (fun u_30 H locs hok hP hD hS => ?_)
  have hP : va_P D cl [(hm, .inr (1, [.ref a, .ref b, .ref qa, .ref qu, .ref qb, .ref qh, .ref qm])), (qu, .inl (cJ, 8, .inr (.inl (f8 u0 u1 u2 u3 u4 u5 u6 u7)))), (qb, .inl (cJ, 8, .inr (.inl (f8 u0 u1 (mixL u0 u2 t) (mixL u1 u3 t) v4 v5 v6 v7)))), (qh, .inl (cJ, 8, .inr (.inl (f8 w0 w1 w2 w3 (mixL u4 u6 t) (mixL u5 u7 t) u6 u7)))), (qm, .inl (cJ, 8, .inr (.inl (f8 (mixL (mixL u0 u2 t) (mixL u2 u4 t) t) (mixL (mixL u1 u3 t) (mixL u3 u5 t) t) (mixL u2 u4 t) (mixL u3 u5 t) (mixL u4 u6 t) (mixL u5 u7 t) u6 u7))))] H := hP
  have hD : va_D A [(hm, .inr (1, [.ref a, .ref b, .ref qa, .ref qu, .ref qb, .ref qh, .ref qm])), (qu, .inl (cJ, 8, .inr (.inl (f8 u0 u1 u2 u3 u4 u5 u6 u7)))), (qb, .inl (cJ, 8, .inr (.inl (f8 u0 u1 (mixL u0 u2 t) (mixL u1 u3 t) v4 v5 v6 v7)))), (qh, .inl (cJ, 8, .inr (.inl (f8 w0 w1 w2 w3 (mixL u4 u6 t) (mixL u5 u7 t) u6 u7)))), (qm, .inl (cJ, 8, .inr (.inl (f8 (mixL (mixL u0 u2 t) (mixL u2 u4 t) t) (mixL (mixL u1 u3 t) (mixL u3 u5 t) t) (mixL u2 u4 t) (mixL u3 u5 t) (mixL u4 u6 t) (mixL u5 u7 t) u6 u7))))] := hD
  refine W.eq (g2 := F0 m 149 ls [.long (mixL (mixL u2 u4 t) (mixL u4 u6 t) t), .int 2, .ref qm]) rfl ?_
  refine st_l hx hb hK hP hD hS 4 2 rfl rfl 2 (by omega) (by omega) d_M_part_149 (fun H locs hP hD hS => ?_)
  have hP : va_P D cl [(hm, .inr (1, [.ref a, .ref b, .ref qa, .ref qu, .ref qb, .ref qh, .ref qm])), (qu, .inl (cJ, 8, .inr (.inl (f8 u0 u1 u2 u3 u4 u5 u6 u7)))), (qb, .inl (cJ, 8, .inr (.inl (f8 u0 u1 (mixL u0 u2 t) (mixL u1 u3 t) v4 v5 v6 v7)))), (qh, .inl (cJ, 8, .inr (.inl (f8 w0 w1 w2 w3 (mixL u4 u6 t) (mixL u5 u7 t) u6 u7)))), (qm, .inl (cJ, 8, .inr (.inl (f8 (mixL (mixL u0 u2 t) (mixL u2 u4 t) t) (mixL (mixL u1 u3 t) (mixL u3 u5 t) t) (mixL (mixL u2 u4 t) (mixL u4 u6 t) t) (mixL u3 u5 t) (mixL u4 u6 t) (mixL u5 u7 t) u6 u7))))] H := by rw [← f8_2]; exact hP
  have hD : va_D A [(hm, .inr (1, [.ref a, .ref b, .ref qa, .ref qu, .ref qb, .ref qh, .ref qm])), (qu, .inl (cJ, 8, .inr (.inl (f8 u0 u1 u2 u3 u4 u5 u6 u7)))), (qb, .inl (cJ, 8, .inr (.inl (f8 u0 u1 (mixL u0 u2 t) (mixL u1 u3 t) v4 v5 v6 v7)))), (qh, .inl (cJ, 8, .inr (.inl (f8 w0 w1 w2 w3 (mixL u4 u6 t) (mixL u5 u7 t) u6 u7)))), (qm, .inl (cJ, 8, .inr (.inl (f8 (mixL (mixL u0 u2 t) (mixL u2 u4 t) t) (mixL (mixL u1 u3 t) (mixL u3 u5 t) t) (mixL (mixL u2 u4 t) (mixL u4 u6 t) t) (mixL u3 u5 t) (mixL u4 u6 t) (mixL u5 u7 t) u6 u7))))] := by rw [← f8_2]; exact hD
  refine lv_iinc (v := 3) (lv' := [(4, .int 3), (3, .int 1), (0, .ref hm), (1, .long t)]) hx hb d_M_part_150 hl (k := 0) rfl (by first | exact nI_add _ 1 | rfl | decide) (by decide) rfl (fun ls hl => ?_)
  refine lv_goto (tgt := 110) hx hb d_M_part_153 (by decide) ?_
  refine lv_iload hx hb d_M_part_110 (lv_at hl 0 rfl) ?_
  refine lv_iconst (v := 2) hx hb d_M_part_112 (by decide) ?_
  refine lv_iadd hx hb d_M_part_113 ?_
  refine tp_i (5) (by decide) ?_
  refine lv_bipush (v := 8) hx hb d_M_part_114 (by decide) ?_
  refine lv_iconst (v := 2) hx hb d_M_part_116 (by decide) ?_
  refine lv_iload_n hx hb d_M_part_117 rfl (lv_at hl 1 rfl) ?_
  refine lv_imul hx hb d_M_part_118 ?_
  refine tp_i (2) (by decide) ?_
  refine lv_isub hx hb d_M_part_119 ?_
  refine tp_i (6) (by decide) ?_
  refine bn_ge (a1 := 5) (b1 := 6) (tgt := 156) hx hb (by omega) (by omega) d_M_part_120 (by decide) (fun c_31 => ?_) (fun c_31 => ?_)
  · exact absurd c_31 (by decide)
  refine lv_aload_n hx hb d_M_part_123 rfl (lv_at hl 2 rfl) ?_
  refine va_get (D := D) (ci := 1) (v := .ref qm) (C := R_M) (T := T_M) (N := 7) hx hb hts (ui_M _) hown hK hP 0 rfl rfl 6 (by decide) (hts _ (gwc gw_534)) (fun _ h9 => h9) rfl d_M_part_124 ?_
  refine lv_iload hx hb d_M_part_127 (lv_at hl 0 rfl) ?_
  refine lv_aload_n hx hb d_M_part_129 rfl (lv_at hl 2 rfl) ?_
  refine va_get (D := D) (ci := 1) (v := .ref qm) (C := R_M) (T := T_M) (N := 7) hx hb hts (ui_M _) hown hK hP 0 rfl rfl 6 (by decide) (hts _ (gwc gw_534)) (fun _ h9 => h9) rfl d_M_part_130 ?_
  refine lv_iload hx hb d_M_part_133 (lv_at hl 0 rfl) ?_
  refine ld_l hx hb hK hP 4 2 rfl rfl 3 (by omega) (by omega) d_M_part_135 ?_
  refine tp_l (mixL u3 u5 t) (rfl) ?_
  refine lv_aload_n hx hb d_M_part_136 rfl (lv_at hl 2 rfl) ?_
  refine va_get (D := D) (ci := 1) (v := .ref qm) (C := R_M) (T := T_M) (N := 7) hx hb hts (ui_M _) hown hK hP 0 rfl rfl 6 (by decide) (hts _ (gwc gw_534)) (fun _ h9 => h9) rfl d_M_part_137 ?_
  refine lv_iload hx hb d_M_part_140 (lv_at hl 0 rfl) ?_
  refine lv_iconst (v := 2) hx hb d_M_part_142 (by decide) ?_
  refine lv_iadd hx hb d_M_part_143 ?_
  refine tp_i (5) (by decide) ?_
  refine ld_l hx hb hK hP 4 2 rfl rfl 5 (by omega) (by omega) d_M_part_144 ?_
  refine tp_l (mixL u5 u7 t) (rfl) ?_
  refine lv_lload_n hx hb d_M_part_145 rfl (lv_at hl 3 rfl) ?_
  refine ct_callS (av := [.long (mixL u3 u5 t), .long (mixL u5 u7 t), .long t]) (rest := [.int 3, .ref qm]) (wr := [(hm, .inr (1, [.ref a, .ref b, .ref qa, .ref qu, .ref qb, .ref qh, .ref qm])), (qu, .inl (cJ, 8, .inr (.inl (f8 u0 u1 u2 u3 u4 u5 u6 u7)))), (qb, .inl (cJ, 8, .inr (.inl (f8 u0 u1 (mixL u0 u2 t) (mixL u1 u3 t) v4 v5 v6 v7)))), (qh, .inl (cJ, 8, .inr (.inl (f8 w0 w1 w2 w3 (mixL u4 u6 t) (mixL u5 u7 t) u6 u7)))), (qm, .inl (cJ, 8, .inr (.inl (f8 (mixL (mixL u0 u2 t) (mixL u2 u4 t) t) (mixL (mixL u1 u3 t) (mixL u3 u5 t) t) (mixL (mixL u2 u4 t) (mixL u4 u6 t) t) (mixL u3 u5 t) (mixL u4 u6 t) (mixL u5 u7 t) u6 u7))))]) (n := 3) (c_M_mix l D cI cB cJ qQ (mixL u3 u5 t) (mixL u5 u7 t) t ) hx hb hml hown hts (amb_ok qQ) hK hP hD hS hA hM (gi_S gw_669 gw_670 gw_33 gw_671) rfl (by decide +kernel) ⟨by omega, by omega⟩ [] [0, 1, 2, 3, 4] rfl rfl rfl rfl (by decide) rfl hl.1 rfl (Nat.le_of_ble_eq_true rfl) d_M_part_146 ⟨by omega, by omega⟩ (fun u_32 H locs hok hP hD hS => ?_)
  have hP : va_P D cl [(hm, .inr (1, [.ref a, .ref b, .ref qa, .ref qu, .ref qb, .ref qh, .ref qm])), (qu, .inl (cJ, 8, .inr (.inl (f8 u0 u1 u2 u3 u4 u5 u6 u7)))), (qb, .inl (cJ, 8, .inr (.inl (f8 u0 u1 (mixL u0 u2 t) (mixL u1 u3 t) v4 v5 v6 v7)))), (qh, .inl (cJ, 8, .inr (.inl (f8 w0 w1 w2 w3 (mixL u4 u6 t) (mixL u5 u7 t) u6 u7)))), (qm, .inl (cJ, 8, .inr (.inl (f8 (mixL (mixL u0 u2 t) (mixL u2 u4 t) t) (mixL (mixL u1 u3 t) (mixL u3 u5 t) t) (mixL (mixL u2 u4 t) (mixL u4 u6 t) t) (mixL u3 u5 t) (mixL u4 u6 t) (mixL u5 u7 t) u6 u7))))] H := hP
  have hD : va_D A [(hm, .inr (1, [.ref a, .ref b, .ref qa, .ref qu, .ref qb, .ref qh, .ref qm])), (qu, .inl (cJ, 8, .inr (.inl (f8 u0 u1 u2 u3 u4 u5 u6 u7)))), (qb, .inl (cJ, 8, .inr (.inl (f8 u0 u1 (mixL u0 u2 t) (mixL u1 u3 t) v4 v5 v6 v7)))), (qh, .inl (cJ, 8, .inr (.inl (f8 w0 w1 w2 w3 (mixL u4 u6 t) (mixL u5 u7 t) u6 u7)))), (qm, .inl (cJ, 8, .inr (.inl (f8 (mixL (mixL u0 u2 t) (mixL u2 u4 t) t) (mixL (mixL u1 u3 t) (mixL u3 u5 t) t) (mixL (mixL u2 u4 t) (mixL u4 u6 t) t) (mixL u3 u5 t) (mixL u4 u6 t) (mixL u5 u7 t) u6 u7))))] := hD
  refine W.eq (g2 := F0 m 149 ls [.long (mixL (mixL u3 u5 t) (mixL u5 u7 t) t), .int 3, .ref qm]) rfl ?_
  refine st_l hx hb hK hP hD hS 4 2 rfl rfl 3 (by omega) (by omega) d_M_part_149 (fun H locs hP hD hS => ?_)
  have hP : va_P D cl [(hm, .inr (1, [.ref a, .ref b, .ref qa, .ref qu, .ref qb, .ref qh, .ref qm])), (qu, .inl (cJ, 8, .inr (.inl (f8 u0 u1 u2 u3 u4 u5 u6 u7)))), (qb, .inl (cJ, 8, .inr (.inl (f8 u0 u1 (mixL u0 u2 t) (mixL u1 u3 t) v4 v5 v6 v7)))), (qh, .inl (cJ, 8, .inr (.inl (f8 w0 w1 w2 w3 (mixL u4 u6 t) (mixL u5 u7 t) u6 u7)))), (qm, .inl (cJ, 8, .inr (.inl (f8 (mixL (mixL u0 u2 t) (mixL u2 u4 t) t) (mixL (mixL u1 u3 t) (mixL u3 u5 t) t) (mixL (mixL u2 u4 t) (mixL u4 u6 t) t) (mixL (mixL u3 u5 t) (mixL u5 u7 t) t) (mixL u4 u6 t) (mixL u5 u7 t) u6 u7))))] H := by rw [← f8_3]; exact hP
  have hD : va_D A [(hm, .inr (1, [.ref a, .ref b, .ref qa, .ref qu, .ref qb, .ref qh, .ref qm])), (qu, .inl (cJ, 8, .inr (.inl (f8 u0 u1 u2 u3 u4 u5 u6 u7)))), (qb, .inl (cJ, 8, .inr (.inl (f8 u0 u1 (mixL u0 u2 t) (mixL u1 u3 t) v4 v5 v6 v7)))), (qh, .inl (cJ, 8, .inr (.inl (f8 w0 w1 w2 w3 (mixL u4 u6 t) (mixL u5 u7 t) u6 u7)))), (qm, .inl (cJ, 8, .inr (.inl (f8 (mixL (mixL u0 u2 t) (mixL u2 u4 t) t) (mixL (mixL u1 u3 t) (mixL u3 u5 t) t) (mixL (mixL u2 u4 t) (mixL u4 u6 t) t) (mixL (mixL u3 u5 t) (mixL u5 u7 t) t) (mixL u4 u6 t) (mixL u5 u7 t) u6 u7))))] := by rw [← f8_3]; exact hD
  refine lv_iinc (v := 4) (lv' := [(4, .int 4), (3, .int 1), (0, .ref hm), (1, .long t)]) hx hb d_M_part_150 hl (k := 0) rfl (by first | exact nI_add _ 1 | rfl | decide) (by decide) rfl (fun ls hl => ?_)
  refine lv_goto (tgt := 110) hx hb d_M_part_153 (by decide) ?_
  refine lv_iload hx hb d_M_part_110 (lv_at hl 0 rfl) ?_
  refine lv_iconst (v := 2) hx hb d_M_part_112 (by decide) ?_
  refine lv_iadd hx hb d_M_part_113 ?_
  refine tp_i (6) (by decide) ?_
  refine lv_bipush (v := 8) hx hb d_M_part_114 (by decide) ?_
  refine lv_iconst (v := 2) hx hb d_M_part_116 (by decide) ?_
  refine lv_iload_n hx hb d_M_part_117 rfl (lv_at hl 1 rfl) ?_
  refine lv_imul hx hb d_M_part_118 ?_
  refine tp_i (2) (by decide) ?_
  refine lv_isub hx hb d_M_part_119 ?_
  refine tp_i (6) (by decide) ?_
  refine bn_ge (a1 := 6) (b1 := 6) (tgt := 156) hx hb (by omega) (by omega) d_M_part_120 (by decide) (fun c_33 => ?_) (fun c_33 => ?_)
  rotate_left
  · exact absurd c_33 (by decide)
  refine lv_iinc (v := 2) (lv' := [(3, .int 2), (4, .int 4), (0, .ref hm), (1, .long t)]) hx hb d_M_part_156 hl (k := 1) rfl (by first | exact nI_add _ 1 | rfl | decide) (by decide) rfl (fun ls hl => ?_)
  refine lv_goto (tgt := 28) hx hb d_M_part_159 (by decide) ?_
  refine lv_iload_n hx hb d_M_part_28 rfl (lv_at hl 0 rfl) ?_
  refine lv_iconst (v := 4) hx hb d_M_part_29 (by decide) ?_
  refine bn_ge (a1 := 2) (b1 := 4) (tgt := 162) hx hb (by omega) (by omega) d_M_part_30 (by decide) (fun c_34 => ?_) (fun c_34 => ?_)
  · exact absurd c_34 (by decide)
  refine lv_aload_n hx hb d_M_part_33 rfl (lv_at hl 2 rfl) ?_
  refine va_get (D := D) (ci := 1) (v := .ref qb) (C := R_M) (T := T_M) (N := 7) hx hb hts (ui_M _) hown hK hP 0 rfl rfl 4 (by decide) (hts _ (gwc gw_532)) (fun _ h9 => h9) rfl d_M_part_34 ?_
  refine lv_iconst (v := 2) hx hb d_M_part_37 (by decide) ?_
  refine lv_iload_n hx hb d_M_part_38 rfl (lv_at hl 0 rfl) ?_
  refine lv_imul hx hb d_M_part_39 ?_
  refine tp_i (4) (by decide) ?_
  refine lv_aload_n hx hb d_M_part_40 rfl (lv_at hl 2 rfl) ?_
  refine va_get (D := D) (ci := 1) (v := .ref qm) (C := R_M) (T := T_M) (N := 7) hx hb hts (ui_M _) hown hK hP 0 rfl rfl 6 (by decide) (hts _ (gwc gw_534)) (fun _ h9 => h9) rfl d_M_part_41 ?_
  refine lv_iconst (v := 0) hx hb d_M_part_44 (by decide) ?_
  refine ld_l hx hb hK hP 4 2 rfl rfl 0 (by omega) (by omega) d_M_part_45 ?_
  refine tp_l (mixL (mixL u0 u2 t) (mixL u2 u4 t) t) (rfl) ?_
  refine st_l hx hb hK hP hD hS 2 2 rfl rfl 4 (by omega) (by omega) d_M_part_46 (fun H locs hP hD hS => ?_)
  have hP : va_P D cl [(hm, .inr (1, [.ref a, .ref b, .ref qa, .ref qu, .ref qb, .ref qh, .ref qm])), (qu, .inl (cJ, 8, .inr (.inl (f8 u0 u1 u2 u3 u4 u5 u6 u7)))), (qb, .inl (cJ, 8, .inr (.inl (f8 u0 u1 (mixL u0 u2 t) (mixL u1 u3 t) (mixL (mixL u0 u2 t) (mixL u2 u4 t) t) v5 v6 v7)))), (qh, .inl (cJ, 8, .inr (.inl (f8 w0 w1 w2 w3 (mixL u4 u6 t) (mixL u5 u7 t) u6 u7)))), (qm, .inl (cJ, 8, .inr (.inl (f8 (mixL (mixL u0 u2 t) (mixL u2 u4 t) t) (mixL (mixL u1 u3 t) (mixL u3 u5 t) t) (mixL (mixL u2 u4 t) (mixL u4 u6 t) t) (mixL (mixL u3 u5 t) (mixL u5 u7 t) t) (mixL u4 u6 t) (mixL u5 u7 t) u6 u7))))] H := by rw [← f8_4]; exact hP
  have hD : va_D A [(hm, .inr (1, [.ref a, .ref b, .ref qa, .ref qu, .ref qb, .ref qh, .ref qm])), (qu, .inl (cJ, 8, .inr (.inl (f8 u0 u1 u2 u3 u4 u5 u6 u7)))), (qb, .inl (cJ, 8, .inr (.inl (f8 u0 u1 (mixL u0 u2 t) (mixL u1 u3 t) (mixL (mixL u0 u2 t) (mixL u2 u4 t) t) v5 v6 v7)))), (qh, .inl (cJ, 8, .inr (.inl (f8 w0 w1 w2 w3 (mixL u4 u6 t) (mixL u5 u7 t) u6 u7)))), (qm, .inl (cJ, 8, .inr (.inl (f8 (mixL (mixL u0 u2 t) (mixL u2 u4 t) t) (mixL (mixL u1 u3 t) (mixL u3 u5 t) t) (mixL (mixL u2 u4 t) (mixL u4 u6 t) t) (mixL (mixL u3 u5 t) (mixL u5 u7 t) t) (mixL u4 u6 t) (mixL u5 u7 t) u6 u7))))] := by rw [← f8_4]; exact hD
  refine lv_aload_n hx hb d_M_part_47 rfl (lv_at hl 2 rfl) ?_
  refine va_get (D := D) (ci := 1) (v := .ref qb) (C := R_M) (T := T_M) (N := 7) hx hb hts (ui_M _) hown hK hP 0 rfl rfl 4 (by decide) (hts _ (gwc gw_532)) (fun _ h9 => h9) rfl d_M_part_48 ?_
  refine lv_iconst (v := 2) hx hb d_M_part_51 (by decide) ?_
  refine lv_iload_n hx hb d_M_part_52 rfl (lv_at hl 0 rfl) ?_
  refine lv_imul hx hb d_M_part_53 ?_
  refine tp_i (4) (by decide) ?_
  refine lv_iconst (v := 1) hx hb d_M_part_54 (by decide) ?_
  refine lv_iadd hx hb d_M_part_55 ?_
  refine tp_i (5) (by decide) ?_
  refine lv_aload_n hx hb d_M_part_56 rfl (lv_at hl 2 rfl) ?_
  refine va_get (D := D) (ci := 1) (v := .ref qm) (C := R_M) (T := T_M) (N := 7) hx hb hts (ui_M _) hown hK hP 0 rfl rfl 6 (by decide) (hts _ (gwc gw_534)) (fun _ h9 => h9) rfl d_M_part_57 ?_
  refine lv_iconst (v := 1) hx hb d_M_part_60 (by decide) ?_
  refine ld_l hx hb hK hP 4 2 rfl rfl 1 (by omega) (by omega) d_M_part_61 ?_
  refine tp_l (mixL (mixL u1 u3 t) (mixL u3 u5 t) t) (rfl) ?_
  refine st_l hx hb hK hP hD hS 2 2 rfl rfl 5 (by omega) (by omega) d_M_part_62 (fun H locs hP hD hS => ?_)
  have hP : va_P D cl [(hm, .inr (1, [.ref a, .ref b, .ref qa, .ref qu, .ref qb, .ref qh, .ref qm])), (qu, .inl (cJ, 8, .inr (.inl (f8 u0 u1 u2 u3 u4 u5 u6 u7)))), (qb, .inl (cJ, 8, .inr (.inl (f8 u0 u1 (mixL u0 u2 t) (mixL u1 u3 t) (mixL (mixL u0 u2 t) (mixL u2 u4 t) t) (mixL (mixL u1 u3 t) (mixL u3 u5 t) t) v6 v7)))), (qh, .inl (cJ, 8, .inr (.inl (f8 w0 w1 w2 w3 (mixL u4 u6 t) (mixL u5 u7 t) u6 u7)))), (qm, .inl (cJ, 8, .inr (.inl (f8 (mixL (mixL u0 u2 t) (mixL u2 u4 t) t) (mixL (mixL u1 u3 t) (mixL u3 u5 t) t) (mixL (mixL u2 u4 t) (mixL u4 u6 t) t) (mixL (mixL u3 u5 t) (mixL u5 u7 t) t) (mixL u4 u6 t) (mixL u5 u7 t) u6 u7))))] H := by rw [← f8_5]; exact hP
  have hD : va_D A [(hm, .inr (1, [.ref a, .ref b, .ref qa, .ref qu, .ref qb, .ref qh, .ref qm])), (qu, .inl (cJ, 8, .inr (.inl (f8 u0 u1 u2 u3 u4 u5 u6 u7)))), (qb, .inl (cJ, 8, .inr (.inl (f8 u0 u1 (mixL u0 u2 t) (mixL u1 u3 t) (mixL (mixL u0 u2 t) (mixL u2 u4 t) t) (mixL (mixL u1 u3 t) (mixL u3 u5 t) t) v6 v7)))), (qh, .inl (cJ, 8, .inr (.inl (f8 w0 w1 w2 w3 (mixL u4 u6 t) (mixL u5 u7 t) u6 u7)))), (qm, .inl (cJ, 8, .inr (.inl (f8 (mixL (mixL u0 u2 t) (mixL u2 u4 t) t) (mixL (mixL u1 u3 t) (mixL u3 u5 t) t) (mixL (mixL u2 u4 t) (mixL u4 u6 t) t) (mixL (mixL u3 u5 t) (mixL u5 u7 t) t) (mixL u4 u6 t) (mixL u5 u7 t) u6 u7))))] := by rw [← f8_5]; exact hD
  refine lv_aload_n hx hb d_M_part_63 rfl (lv_at hl 2 rfl) ?_
  refine va_get (D := D) (ci := 1) (v := .ref qh) (C := R_M) (T := T_M) (N := 7) hx hb hts (ui_M _) hown hK hP 0 rfl rfl 5 (by decide) (hts _ (gwc gw_533)) (fun _ h9 => h9) rfl d_M_part_64 ?_
  refine lv_bipush (v := 6) hx hb d_M_part_67 (by decide) ?_
  refine lv_iconst (v := 2) hx hb d_M_part_69 (by decide) ?_
  refine lv_iload_n hx hb d_M_part_70 rfl (lv_at hl 0 rfl) ?_
  refine lv_imul hx hb d_M_part_71 ?_
  refine tp_i (4) (by decide) ?_
  refine lv_isub hx hb d_M_part_72 ?_
  refine tp_i (2) (by decide) ?_
  refine lv_aload_n hx hb d_M_part_73 rfl (lv_at hl 2 rfl) ?_
  refine va_get (D := D) (ci := 1) (v := .ref qm) (C := R_M) (T := T_M) (N := 7) hx hb hts (ui_M _) hown hK hP 0 rfl rfl 6 (by decide) (hts _ (gwc gw_534)) (fun _ h9 => h9) rfl d_M_part_74 ?_
  refine lv_bipush (v := 6) hx hb d_M_part_77 (by decide) ?_
  refine lv_iconst (v := 2) hx hb d_M_part_79 (by decide) ?_
  refine lv_iload_n hx hb d_M_part_80 rfl (lv_at hl 0 rfl) ?_
  refine lv_imul hx hb d_M_part_81 ?_
  refine tp_i (4) (by decide) ?_
  refine lv_isub hx hb d_M_part_82 ?_
  refine tp_i (2) (by decide) ?_
  refine ld_l hx hb hK hP 4 2 rfl rfl 2 (by omega) (by omega) d_M_part_83 ?_
  refine tp_l (mixL (mixL u2 u4 t) (mixL u4 u6 t) t) (rfl) ?_
  refine st_l hx hb hK hP hD hS 3 2 rfl rfl 2 (by omega) (by omega) d_M_part_84 (fun H locs hP hD hS => ?_)
  have hP : va_P D cl [(hm, .inr (1, [.ref a, .ref b, .ref qa, .ref qu, .ref qb, .ref qh, .ref qm])), (qu, .inl (cJ, 8, .inr (.inl (f8 u0 u1 u2 u3 u4 u5 u6 u7)))), (qb, .inl (cJ, 8, .inr (.inl (f8 u0 u1 (mixL u0 u2 t) (mixL u1 u3 t) (mixL (mixL u0 u2 t) (mixL u2 u4 t) t) (mixL (mixL u1 u3 t) (mixL u3 u5 t) t) v6 v7)))), (qh, .inl (cJ, 8, .inr (.inl (f8 w0 w1 (mixL (mixL u2 u4 t) (mixL u4 u6 t) t) w3 (mixL u4 u6 t) (mixL u5 u7 t) u6 u7)))), (qm, .inl (cJ, 8, .inr (.inl (f8 (mixL (mixL u0 u2 t) (mixL u2 u4 t) t) (mixL (mixL u1 u3 t) (mixL u3 u5 t) t) (mixL (mixL u2 u4 t) (mixL u4 u6 t) t) (mixL (mixL u3 u5 t) (mixL u5 u7 t) t) (mixL u4 u6 t) (mixL u5 u7 t) u6 u7))))] H := by rw [← f8_2]; exact hP
  have hD : va_D A [(hm, .inr (1, [.ref a, .ref b, .ref qa, .ref qu, .ref qb, .ref qh, .ref qm])), (qu, .inl (cJ, 8, .inr (.inl (f8 u0 u1 u2 u3 u4 u5 u6 u7)))), (qb, .inl (cJ, 8, .inr (.inl (f8 u0 u1 (mixL u0 u2 t) (mixL u1 u3 t) (mixL (mixL u0 u2 t) (mixL u2 u4 t) t) (mixL (mixL u1 u3 t) (mixL u3 u5 t) t) v6 v7)))), (qh, .inl (cJ, 8, .inr (.inl (f8 w0 w1 (mixL (mixL u2 u4 t) (mixL u4 u6 t) t) w3 (mixL u4 u6 t) (mixL u5 u7 t) u6 u7)))), (qm, .inl (cJ, 8, .inr (.inl (f8 (mixL (mixL u0 u2 t) (mixL u2 u4 t) t) (mixL (mixL u1 u3 t) (mixL u3 u5 t) t) (mixL (mixL u2 u4 t) (mixL u4 u6 t) t) (mixL (mixL u3 u5 t) (mixL u5 u7 t) t) (mixL u4 u6 t) (mixL u5 u7 t) u6 u7))))] := by rw [← f8_2]; exact hD
  refine lv_aload_n hx hb d_M_part_85 rfl (lv_at hl 2 rfl) ?_
  refine va_get (D := D) (ci := 1) (v := .ref qh) (C := R_M) (T := T_M) (N := 7) hx hb hts (ui_M _) hown hK hP 0 rfl rfl 5 (by decide) (hts _ (gwc gw_533)) (fun _ h9 => h9) rfl d_M_part_86 ?_
  refine lv_bipush (v := 7) hx hb d_M_part_89 (by decide) ?_
  refine lv_iconst (v := 2) hx hb d_M_part_91 (by decide) ?_
  refine lv_iload_n hx hb d_M_part_92 rfl (lv_at hl 0 rfl) ?_
  refine lv_imul hx hb d_M_part_93 ?_
  refine tp_i (4) (by decide) ?_
  refine lv_isub hx hb d_M_part_94 ?_
  refine tp_i (3) (by decide) ?_
  refine lv_aload_n hx hb d_M_part_95 rfl (lv_at hl 2 rfl) ?_
  refine va_get (D := D) (ci := 1) (v := .ref qm) (C := R_M) (T := T_M) (N := 7) hx hb hts (ui_M _) hown hK hP 0 rfl rfl 6 (by decide) (hts _ (gwc gw_534)) (fun _ h9 => h9) rfl d_M_part_96 ?_
  refine lv_bipush (v := 7) hx hb d_M_part_99 (by decide) ?_
  refine lv_iconst (v := 2) hx hb d_M_part_101 (by decide) ?_
  refine lv_iload_n hx hb d_M_part_102 rfl (lv_at hl 0 rfl) ?_
  refine lv_imul hx hb d_M_part_103 ?_
  refine tp_i (4) (by decide) ?_
  refine lv_isub hx hb d_M_part_104 ?_
  refine tp_i (3) (by decide) ?_
  refine ld_l hx hb hK hP 4 2 rfl rfl 3 (by omega) (by omega) d_M_part_105 ?_
  refine tp_l (mixL (mixL u3 u5 t) (mixL u5 u7 t) t) (rfl) ?_
  refine st_l hx hb hK hP hD hS 3 2 rfl rfl 3 (by omega) (by omega) d_M_part_106 (fun H locs hP hD hS => ?_)
  have hP : va_P D cl [(hm, .inr (1, [.ref a, .ref b, .ref qa, .ref qu, .ref qb, .ref qh, .ref qm])), (qu, .inl (cJ, 8, .inr (.inl (f8 u0 u1 u2 u3 u4 u5 u6 u7)))), (qb, .inl (cJ, 8, .inr (.inl (f8 u0 u1 (mixL u0 u2 t) (mixL u1 u3 t) (mixL (mixL u0 u2 t) (mixL u2 u4 t) t) (mixL (mixL u1 u3 t) (mixL u3 u5 t) t) v6 v7)))), (qh, .inl (cJ, 8, .inr (.inl (f8 w0 w1 (mixL (mixL u2 u4 t) (mixL u4 u6 t) t) (mixL (mixL u3 u5 t) (mixL u5 u7 t) t) (mixL u4 u6 t) (mixL u5 u7 t) u6 u7)))), (qm, .inl (cJ, 8, .inr (.inl (f8 (mixL (mixL u0 u2 t) (mixL u2 u4 t) t) (mixL (mixL u1 u3 t) (mixL u3 u5 t) t) (mixL (mixL u2 u4 t) (mixL u4 u6 t) t) (mixL (mixL u3 u5 t) (mixL u5 u7 t) t) (mixL u4 u6 t) (mixL u5 u7 t) u6 u7))))] H := by rw [← f8_3]; exact hP
  have hD : va_D A [(hm, .inr (1, [.ref a, .ref b, .ref qa, .ref qu, .ref qb, .ref qh, .ref qm])), (qu, .inl (cJ, 8, .inr (.inl (f8 u0 u1 u2 u3 u4 u5 u6 u7)))), (qb, .inl (cJ, 8, .inr (.inl (f8 u0 u1 (mixL u0 u2 t) (mixL u1 u3 t) (mixL (mixL u0 u2 t) (mixL u2 u4 t) t) (mixL (mixL u1 u3 t) (mixL u3 u5 t) t) v6 v7)))), (qh, .inl (cJ, 8, .inr (.inl (f8 w0 w1 (mixL (mixL u2 u4 t) (mixL u4 u6 t) t) (mixL (mixL u3 u5 t) (mixL u5 u7 t) t) (mixL u4 u6 t) (mixL u5 u7 t) u6 u7)))), (qm, .inl (cJ, 8, .inr (.inl (f8 (mixL (mixL u0 u2 t) (mixL u2 u4 t) t) (mixL (mixL u1 u3 t) (mixL u3 u5 t) t) (mixL (mixL u2 u4 t) (mixL u4 u6 t) t) (mixL (mixL u3 u5 t) (mixL u5 u7 t) t) (mixL u4 u6 t) (mixL u5 u7 t) u6 u7))))] := by rw [← f8_3]; exact hD
  refine lv_iconst (v := 0) hx hb d_M_part_107 (by decide) ?_
  refine lv_istore (lv' := [(4, .int 0), (3, .int 2), (0, .ref hm), (1, .long t)]) hx hb d_M_part_108 hl (by decide) rfl (fun ls hl => ?_)
  refine lv_iload hx hb d_M_part_110 (lv_at hl 0 rfl) ?_
  refine lv_iconst (v := 2) hx hb d_M_part_112 (by decide) ?_
  refine lv_iadd hx hb d_M_part_113 ?_
  refine tp_i (2) (by decide) ?_
  refine lv_bipush (v := 8) hx hb d_M_part_114 (by decide) ?_
  refine lv_iconst (v := 2) hx hb d_M_part_116 (by decide) ?_
  refine lv_iload_n hx hb d_M_part_117 rfl (lv_at hl 1 rfl) ?_
  refine lv_imul hx hb d_M_part_118 ?_
  refine tp_i (4) (by decide) ?_
  refine lv_isub hx hb d_M_part_119 ?_
  refine tp_i (4) (by decide) ?_
  refine bn_ge (a1 := 2) (b1 := 4) (tgt := 156) hx hb (by omega) (by omega) d_M_part_120 (by decide) (fun c_35 => ?_) (fun c_35 => ?_)
  · exact absurd c_35 (by decide)
  refine lv_aload_n hx hb d_M_part_123 rfl (lv_at hl 2 rfl) ?_
  refine va_get (D := D) (ci := 1) (v := .ref qm) (C := R_M) (T := T_M) (N := 7) hx hb hts (ui_M _) hown hK hP 0 rfl rfl 6 (by decide) (hts _ (gwc gw_534)) (fun _ h9 => h9) rfl d_M_part_124 ?_
  refine lv_iload hx hb d_M_part_127 (lv_at hl 0 rfl) ?_
  refine lv_aload_n hx hb d_M_part_129 rfl (lv_at hl 2 rfl) ?_
  refine va_get (D := D) (ci := 1) (v := .ref qm) (C := R_M) (T := T_M) (N := 7) hx hb hts (ui_M _) hown hK hP 0 rfl rfl 6 (by decide) (hts _ (gwc gw_534)) (fun _ h9 => h9) rfl d_M_part_130 ?_
  refine lv_iload hx hb d_M_part_133 (lv_at hl 0 rfl) ?_
  refine ld_l hx hb hK hP 4 2 rfl rfl 0 (by omega) (by omega) d_M_part_135 ?_
  refine tp_l (mixL (mixL u0 u2 t) (mixL u2 u4 t) t) (rfl) ?_
  refine lv_aload_n hx hb d_M_part_136 rfl (lv_at hl 2 rfl) ?_
  refine va_get (D := D) (ci := 1) (v := .ref qm) (C := R_M) (T := T_M) (N := 7) hx hb hts (ui_M _) hown hK hP 0 rfl rfl 6 (by decide) (hts _ (gwc gw_534)) (fun _ h9 => h9) rfl d_M_part_137 ?_
  refine lv_iload hx hb d_M_part_140 (lv_at hl 0 rfl) ?_
  refine lv_iconst (v := 2) hx hb d_M_part_142 (by decide) ?_
  refine lv_iadd hx hb d_M_part_143 ?_
  refine tp_i (2) (by decide) ?_
  refine ld_l hx hb hK hP 4 2 rfl rfl 2 (by omega) (by omega) d_M_part_144 ?_
  refine tp_l (mixL (mixL u2 u4 t) (mixL u4 u6 t) t) (rfl) ?_
  refine lv_lload_n hx hb d_M_part_145 rfl (lv_at hl 3 rfl) ?_
  refine ct_callS (av := [.long (mixL (mixL u0 u2 t) (mixL u2 u4 t) t), .long (mixL (mixL u2 u4 t) (mixL u4 u6 t) t), .long t]) (rest := [.int 0, .ref qm]) (wr := [(hm, .inr (1, [.ref a, .ref b, .ref qa, .ref qu, .ref qb, .ref qh, .ref qm])), (qu, .inl (cJ, 8, .inr (.inl (f8 u0 u1 u2 u3 u4 u5 u6 u7)))), (qb, .inl (cJ, 8, .inr (.inl (f8 u0 u1 (mixL u0 u2 t) (mixL u1 u3 t) (mixL (mixL u0 u2 t) (mixL u2 u4 t) t) (mixL (mixL u1 u3 t) (mixL u3 u5 t) t) v6 v7)))), (qh, .inl (cJ, 8, .inr (.inl (f8 w0 w1 (mixL (mixL u2 u4 t) (mixL u4 u6 t) t) (mixL (mixL u3 u5 t) (mixL u5 u7 t) t) (mixL u4 u6 t) (mixL u5 u7 t) u6 u7)))), (qm, .inl (cJ, 8, .inr (.inl (f8 (mixL (mixL u0 u2 t) (mixL u2 u4 t) t) (mixL (mixL u1 u3 t) (mixL u3 u5 t) t) (mixL (mixL u2 u4 t) (mixL u4 u6 t) t) (mixL (mixL u3 u5 t) (mixL u5 u7 t) t) (mixL u4 u6 t) (mixL u5 u7 t) u6 u7))))]) (n := 3) (c_M_mix l D cI cB cJ qQ (mixL (mixL u0 u2 t) (mixL u2 u4 t) t) (mixL (mixL u2 u4 t) (mixL u4 u6 t) t) t ) hx hb hml hown hts (amb_ok qQ) hK hP hD hS hA hM (gi_S gw_669 gw_670 gw_33 gw_671) rfl (by decide +kernel) ⟨by omega, by omega⟩ [] [0, 1, 2, 3, 4] rfl rfl rfl rfl (by decide) rfl hl.1 rfl (Nat.le_of_ble_eq_true rfl) d_M_part_146 ⟨by omega, by omega⟩ (fun u_36 H locs hok hP hD hS => ?_)
  have hP : va_P D cl [(hm, .inr (1, [.ref a, .ref b, .ref qa, .ref qu, .ref qb, .ref qh, .ref qm])), (qu, .inl (cJ, 8, .inr (.inl (f8 u0 u1 u2 u3 u4 u5 u6 u7)))), (qb, .inl (cJ, 8, .inr (.inl (f8 u0 u1 (mixL u0 u2 t) (mixL u1 u3 t) (mixL (mixL u0 u2 t) (mixL u2 u4 t) t) (mixL (mixL u1 u3 t) (mixL u3 u5 t) t) v6 v7)))), (qh, .inl (cJ, 8, .inr (.inl (f8 w0 w1 (mixL (mixL u2 u4 t) (mixL u4 u6 t) t) (mixL (mixL u3 u5 t) (mixL u5 u7 t) t) (mixL u4 u6 t) (mixL u5 u7 t) u6 u7)))), (qm, .inl (cJ, 8, .inr (.inl (f8 (mixL (mixL u0 u2 t) (mixL u2 u4 t) t) (mixL (mixL u1 u3 t) (mixL u3 u5 t) t) (mixL (mixL u2 u4 t) (mixL u4 u6 t) t) (mixL (mixL u3 u5 t) (mixL u5 u7 t) t) (mixL u4 u6 t) (mixL u5 u7 t) u6 u7))))] H := hP
  have hD : va_D A [(hm, .inr (1, [.ref a, .ref b, .ref qa, .ref qu, .ref qb, .ref qh, .ref qm])), (qu, .inl (cJ, 8, .inr (.inl (f8 u0 u1 u2 u3 u4 u5 u6 u7)))), (qb, .inl (cJ, 8, .inr (.inl (f8 u0 u1 (mixL u0 u2 t) (mixL u1 u3 t) (mixL (mixL u0 u2 t) (mixL u2 u4 t) t) (mixL (mixL u1 u3 t) (mixL u3 u5 t) t) v6 v7)))), (qh, .inl (cJ, 8, .inr (.inl (f8 w0 w1 (mixL (mixL u2 u4 t) (mixL u4 u6 t) t) (mixL (mixL u3 u5 t) (mixL u5 u7 t) t) (mixL u4 u6 t) (mixL u5 u7 t) u6 u7)))), (qm, .inl (cJ, 8, .inr (.inl (f8 (mixL (mixL u0 u2 t) (mixL u2 u4 t) t) (mixL (mixL u1 u3 t) (mixL u3 u5 t) t) (mixL (mixL u2 u4 t) (mixL u4 u6 t) t) (mixL (mixL u3 u5 t) (mixL u5 u7 t) t) (mixL u4 u6 t) (mixL u5 u7 t) u6 u7))))] := hD
  refine W.eq (g2 := F0 m 149 ls [.long (mixL (mixL (mixL u0 u2 t) (mixL u2 u4 t) t) (mixL (mixL u2 u4 t) (mixL u4 u6 t) t) t), .int 0, .ref qm]) rfl ?_
  refine st_l hx hb hK hP hD hS 4 2 rfl rfl 0 (by omega) (by omega) d_M_part_149 (fun H locs hP hD hS => ?_)
  have hP : va_P D cl [(hm, .inr (1, [.ref a, .ref b, .ref qa, .ref qu, .ref qb, .ref qh, .ref qm])), (qu, .inl (cJ, 8, .inr (.inl (f8 u0 u1 u2 u3 u4 u5 u6 u7)))), (qb, .inl (cJ, 8, .inr (.inl (f8 u0 u1 (mixL u0 u2 t) (mixL u1 u3 t) (mixL (mixL u0 u2 t) (mixL u2 u4 t) t) (mixL (mixL u1 u3 t) (mixL u3 u5 t) t) v6 v7)))), (qh, .inl (cJ, 8, .inr (.inl (f8 w0 w1 (mixL (mixL u2 u4 t) (mixL u4 u6 t) t) (mixL (mixL u3 u5 t) (mixL u5 u7 t) t) (mixL u4 u6 t) (mixL u5 u7 t) u6 u7)))), (qm, .inl (cJ, 8, .inr (.inl (f8 (mixL (mixL (mixL u0 u2 t) (mixL u2 u4 t) t) (mixL (mixL u2 u4 t) (mixL u4 u6 t) t) t) (mixL (mixL u1 u3 t) (mixL u3 u5 t) t) (mixL (mixL u2 u4 t) (mixL u4 u6 t) t) (mixL (mixL u3 u5 t) (mixL u5 u7 t) t) (mixL u4 u6 t) (mixL u5 u7 t) u6 u7))))] H := by rw [← f8_0]; exact hP
  have hD : va_D A [(hm, .inr (1, [.ref a, .ref b, .ref qa, .ref qu, .ref qb, .ref qh, .ref qm])), (qu, .inl (cJ, 8, .inr (.inl (f8 u0 u1 u2 u3 u4 u5 u6 u7)))), (qb, .inl (cJ, 8, .inr (.inl (f8 u0 u1 (mixL u0 u2 t) (mixL u1 u3 t) (mixL (mixL u0 u2 t) (mixL u2 u4 t) t) (mixL (mixL u1 u3 t) (mixL u3 u5 t) t) v6 v7)))), (qh, .inl (cJ, 8, .inr (.inl (f8 w0 w1 (mixL (mixL u2 u4 t) (mixL u4 u6 t) t) (mixL (mixL u3 u5 t) (mixL u5 u7 t) t) (mixL u4 u6 t) (mixL u5 u7 t) u6 u7)))), (qm, .inl (cJ, 8, .inr (.inl (f8 (mixL (mixL (mixL u0 u2 t) (mixL u2 u4 t) t) (mixL (mixL u2 u4 t) (mixL u4 u6 t) t) t) (mixL (mixL u1 u3 t) (mixL u3 u5 t) t) (mixL (mixL u2 u4 t) (mixL u4 u6 t) t) (mixL (mixL u3 u5 t) (mixL u5 u7 t) t) (mixL u4 u6 t) (mixL u5 u7 t) u6 u7))))] := by rw [← f8_0]; exact hD
  refine lv_iinc (v := 1) (lv' := [(4, .int 1), (3, .int 2), (0, .ref hm), (1, .long t)]) hx hb d_M_part_150 hl (k := 0) rfl (by first | exact nI_add _ 1 | rfl | decide) (by decide) rfl (fun ls hl => ?_)
  refine lv_goto (tgt := 110) hx hb d_M_part_153 (by decide) ?_
  refine lv_iload hx hb d_M_part_110 (lv_at hl 0 rfl) ?_
  refine lv_iconst (v := 2) hx hb d_M_part_112 (by decide) ?_
  refine lv_iadd hx hb d_M_part_113 ?_
  refine tp_i (3) (by decide) ?_
  refine lv_bipush (v := 8) hx hb d_M_part_114 (by decide) ?_
  refine lv_iconst (v := 2) hx hb d_M_part_116 (by decide) ?_
  refine lv_iload_n hx hb d_M_part_117 rfl (lv_at hl 1 rfl) ?_
  refine lv_imul hx hb d_M_part_118 ?_
  refine tp_i (4) (by decide) ?_
  refine lv_isub hx hb d_M_part_119 ?_
  refine tp_i (4) (by decide) ?_
  refine bn_ge (a1 := 3) (b1 := 4) (tgt := 156) hx hb (by omega) (by omega) d_M_part_120 (by decide) (fun c_37 => ?_) (fun c_37 => ?_)
  · exact absurd c_37 (by decide)
  refine lv_aload_n hx hb d_M_part_123 rfl (lv_at hl 2 rfl) ?_
  refine va_get (D := D) (ci := 1) (v := .ref qm) (C := R_M) (T := T_M) (N := 7) hx hb hts (ui_M _) hown hK hP 0 rfl rfl 6 (by decide) (hts _ (gwc gw_534)) (fun _ h9 => h9) rfl d_M_part_124 ?_
  refine lv_iload hx hb d_M_part_127 (lv_at hl 0 rfl) ?_
  refine lv_aload_n hx hb d_M_part_129 rfl (lv_at hl 2 rfl) ?_
  refine va_get (D := D) (ci := 1) (v := .ref qm) (C := R_M) (T := T_M) (N := 7) hx hb hts (ui_M _) hown hK hP 0 rfl rfl 6 (by decide) (hts _ (gwc gw_534)) (fun _ h9 => h9) rfl d_M_part_130 ?_
  refine lv_iload hx hb d_M_part_133 (lv_at hl 0 rfl) ?_
  refine ld_l hx hb hK hP 4 2 rfl rfl 1 (by omega) (by omega) d_M_part_135 ?_
  refine tp_l (mixL (mixL u1 u3 t) (mixL u3 u5 t) t) (rfl) ?_
  refine lv_aload_n hx hb d_M_part_136 rfl (lv_at hl 2 rfl) ?_
  refine va_get (D := D) (ci := 1) (v := .ref qm) (C := R_M) (T := T_M) (N := 7) hx hb hts (ui_M _) hown hK hP 0 rfl rfl 6 (by decide) (hts _ (gwc gw_534)) (fun _ h9 => h9) rfl d_M_part_137 ?_
  refine lv_iload hx hb d_M_part_140 (lv_at hl 0 rfl) ?_
  refine lv_iconst (v := 2) hx hb d_M_part_142 (by decide) ?_
  refine lv_iadd hx hb d_M_part_143 ?_
  refine tp_i (3) (by decide) ?_
  refine ld_l hx hb hK hP 4 2 rfl rfl 3 (by omega) (by omega) d_M_part_144 ?_
  refine tp_l (mixL (mixL u3 u5 t) (mixL u5 u7 t) t) (rfl) ?_
  refine lv_lload_n hx hb d_M_part_145 rfl (lv_at hl 3 rfl) ?_
  refine ct_callS (av := [.long (mixL (mixL u1 u3 t) (mixL u3 u5 t) t), .long (mixL (mixL u3 u5 t) (mixL u5 u7 t) t), .long t]) (rest := [.int 1, .ref qm]) (wr := [(hm, .inr (1, [.ref a, .ref b, .ref qa, .ref qu, .ref qb, .ref qh, .ref qm])), (qu, .inl (cJ, 8, .inr (.inl (f8 u0 u1 u2 u3 u4 u5 u6 u7)))), (qb, .inl (cJ, 8, .inr (.inl (f8 u0 u1 (mixL u0 u2 t) (mixL u1 u3 t) (mixL (mixL u0 u2 t) (mixL u2 u4 t) t) (mixL (mixL u1 u3 t) (mixL u3 u5 t) t) v6 v7)))), (qh, .inl (cJ, 8, .inr (.inl (f8 w0 w1 (mixL (mixL u2 u4 t) (mixL u4 u6 t) t) (mixL (mixL u3 u5 t) (mixL u5 u7 t) t) (mixL u4 u6 t) (mixL u5 u7 t) u6 u7)))), (qm, .inl (cJ, 8, .inr (.inl (f8 (mixL (mixL (mixL u0 u2 t) (mixL u2 u4 t) t) (mixL (mixL u2 u4 t) (mixL u4 u6 t) t) t) (mixL (mixL u1 u3 t) (mixL u3 u5 t) t) (mixL (mixL u2 u4 t) (mixL u4 u6 t) t) (mixL (mixL u3 u5 t) (mixL u5 u7 t) t) (mixL u4 u6 t) (mixL u5 u7 t) u6 u7))))]) (n := 3) (c_M_mix l D cI cB cJ qQ (mixL (mixL u1 u3 t) (mixL u3 u5 t) t) (mixL (mixL u3 u5 t) (mixL u5 u7 t) t) t ) hx hb hml hown hts (amb_ok qQ) hK hP hD hS hA hM (gi_S gw_669 gw_670 gw_33 gw_671) rfl (by decide +kernel) ⟨by omega, by omega⟩ [] [0, 1, 2, 3, 4] rfl rfl rfl rfl (by decide) rfl hl.1 rfl (Nat.le_of_ble_eq_true rfl) d_M_part_146 ⟨by omega, by omega⟩ (fun u_38 H locs hok hP hD hS => ?_)
  have hP : va_P D cl [(hm, .inr (1, [.ref a, .ref b, .ref qa, .ref qu, .ref qb, .ref qh, .ref qm])), (qu, .inl (cJ, 8, .inr (.inl (f8 u0 u1 u2 u3 u4 u5 u6 u7)))), (qb, .inl (cJ, 8, .inr (.inl (f8 u0 u1 (mixL u0 u2 t) (mixL u1 u3 t) (mixL (mixL u0 u2 t) (mixL u2 u4 t) t) (mixL (mixL u1 u3 t) (mixL u3 u5 t) t) v6 v7)))), (qh, .inl (cJ, 8, .inr (.inl (f8 w0 w1 (mixL (mixL u2 u4 t) (mixL u4 u6 t) t) (mixL (mixL u3 u5 t) (mixL u5 u7 t) t) (mixL u4 u6 t) (mixL u5 u7 t) u6 u7)))), (qm, .inl (cJ, 8, .inr (.inl (f8 (mixL (mixL (mixL u0 u2 t) (mixL u2 u4 t) t) (mixL (mixL u2 u4 t) (mixL u4 u6 t) t) t) (mixL (mixL u1 u3 t) (mixL u3 u5 t) t) (mixL (mixL u2 u4 t) (mixL u4 u6 t) t) (mixL (mixL u3 u5 t) (mixL u5 u7 t) t) (mixL u4 u6 t) (mixL u5 u7 t) u6 u7))))] H := hP
  have hD : va_D A [(hm, .inr (1, [.ref a, .ref b, .ref qa, .ref qu, .ref qb, .ref qh, .ref qm])), (qu, .inl (cJ, 8, .inr (.inl (f8 u0 u1 u2 u3 u4 u5 u6 u7)))), (qb, .inl (cJ, 8, .inr (.inl (f8 u0 u1 (mixL u0 u2 t) (mixL u1 u3 t) (mixL (mixL u0 u2 t) (mixL u2 u4 t) t) (mixL (mixL u1 u3 t) (mixL u3 u5 t) t) v6 v7)))), (qh, .inl (cJ, 8, .inr (.inl (f8 w0 w1 (mixL (mixL u2 u4 t) (mixL u4 u6 t) t) (mixL (mixL u3 u5 t) (mixL u5 u7 t) t) (mixL u4 u6 t) (mixL u5 u7 t) u6 u7)))), (qm, .inl (cJ, 8, .inr (.inl (f8 (mixL (mixL (mixL u0 u2 t) (mixL u2 u4 t) t) (mixL (mixL u2 u4 t) (mixL u4 u6 t) t) t) (mixL (mixL u1 u3 t) (mixL u3 u5 t) t) (mixL (mixL u2 u4 t) (mixL u4 u6 t) t) (mixL (mixL u3 u5 t) (mixL u5 u7 t) t) (mixL u4 u6 t) (mixL u5 u7 t) u6 u7))))] := hD
  refine W.eq (g2 := F0 m 149 ls [.long (mixL (mixL (mixL u1 u3 t) (mixL u3 u5 t) t) (mixL (mixL u3 u5 t) (mixL u5 u7 t) t) t), .int 1, .ref qm]) rfl ?_
  refine st_l hx hb hK hP hD hS 4 2 rfl rfl 1 (by omega) (by omega) d_M_part_149 (fun H locs hP hD hS => ?_)
  have hP : va_P D cl [(hm, .inr (1, [.ref a, .ref b, .ref qa, .ref qu, .ref qb, .ref qh, .ref qm])), (qu, .inl (cJ, 8, .inr (.inl (f8 u0 u1 u2 u3 u4 u5 u6 u7)))), (qb, .inl (cJ, 8, .inr (.inl (f8 u0 u1 (mixL u0 u2 t) (mixL u1 u3 t) (mixL (mixL u0 u2 t) (mixL u2 u4 t) t) (mixL (mixL u1 u3 t) (mixL u3 u5 t) t) v6 v7)))), (qh, .inl (cJ, 8, .inr (.inl (f8 w0 w1 (mixL (mixL u2 u4 t) (mixL u4 u6 t) t) (mixL (mixL u3 u5 t) (mixL u5 u7 t) t) (mixL u4 u6 t) (mixL u5 u7 t) u6 u7)))), (qm, .inl (cJ, 8, .inr (.inl (f8 (mixL (mixL (mixL u0 u2 t) (mixL u2 u4 t) t) (mixL (mixL u2 u4 t) (mixL u4 u6 t) t) t) (mixL (mixL (mixL u1 u3 t) (mixL u3 u5 t) t) (mixL (mixL u3 u5 t) (mixL u5 u7 t) t) t) (mixL (mixL u2 u4 t) (mixL u4 u6 t) t) (mixL (mixL u3 u5 t) (mixL u5 u7 t) t) (mixL u4 u6 t) (mixL u5 u7 t) u6 u7))))] H := by rw [← f8_1]; exact hP
  have hD : va_D A [(hm, .inr (1, [.ref a, .ref b, .ref qa, .ref qu, .ref qb, .ref qh, .ref qm])), (qu, .inl (cJ, 8, .inr (.inl (f8 u0 u1 u2 u3 u4 u5 u6 u7)))), (qb, .inl (cJ, 8, .inr (.inl (f8 u0 u1 (mixL u0 u2 t) (mixL u1 u3 t) (mixL (mixL u0 u2 t) (mixL u2 u4 t) t) (mixL (mixL u1 u3 t) (mixL u3 u5 t) t) v6 v7)))), (qh, .inl (cJ, 8, .inr (.inl (f8 w0 w1 (mixL (mixL u2 u4 t) (mixL u4 u6 t) t) (mixL (mixL u3 u5 t) (mixL u5 u7 t) t) (mixL u4 u6 t) (mixL u5 u7 t) u6 u7)))), (qm, .inl (cJ, 8, .inr (.inl (f8 (mixL (mixL (mixL u0 u2 t) (mixL u2 u4 t) t) (mixL (mixL u2 u4 t) (mixL u4 u6 t) t) t) (mixL (mixL (mixL u1 u3 t) (mixL u3 u5 t) t) (mixL (mixL u3 u5 t) (mixL u5 u7 t) t) t) (mixL (mixL u2 u4 t) (mixL u4 u6 t) t) (mixL (mixL u3 u5 t) (mixL u5 u7 t) t) (mixL u4 u6 t) (mixL u5 u7 t) u6 u7))))] := by rw [← f8_1]; exact hD
  refine lv_iinc (v := 2) (lv' := [(4, .int 2), (3, .int 2), (0, .ref hm), (1, .long t)]) hx hb d_M_part_150 hl (k := 0) rfl (by first | exact nI_add _ 1 | rfl | decide) (by decide) rfl (fun ls hl => ?_)
  refine lv_goto (tgt := 110) hx hb d_M_part_153 (by decide) ?_
  refine lv_iload hx hb d_M_part_110 (lv_at hl 0 rfl) ?_
  refine lv_iconst (v := 2) hx hb d_M_part_112 (by decide) ?_
  refine lv_iadd hx hb d_M_part_113 ?_
  refine tp_i (4) (by decide) ?_
  refine lv_bipush (v := 8) hx hb d_M_part_114 (by decide) ?_
  refine lv_iconst (v := 2) hx hb d_M_part_116 (by decide) ?_
  refine lv_iload_n hx hb d_M_part_117 rfl (lv_at hl 1 rfl) ?_
  refine lv_imul hx hb d_M_part_118 ?_
  refine tp_i (4) (by decide) ?_
  refine lv_isub hx hb d_M_part_119 ?_
  refine tp_i (4) (by decide) ?_
  refine bn_ge (a1 := 4) (b1 := 4) (tgt := 156) hx hb (by omega) (by omega) d_M_part_120 (by decide) (fun c_39 => ?_) (fun c_39 => ?_)
  rotate_left
  · exact absurd c_39 (by decide)
  refine lv_iinc (v := 3) (lv' := [(3, .int 3), (4, .int 2), (0, .ref hm), (1, .long t)]) hx hb d_M_part_156 hl (k := 1) rfl (by first | exact nI_add _ 1 | rfl | decide) (by decide) rfl (fun ls hl => ?_)
  refine lv_goto (tgt := 28) hx hb d_M_part_159 (by decide) ?_
  refine lv_iload_n hx hb d_M_part_28 rfl (lv_at hl 0 rfl) ?_
  refine lv_iconst (v := 4) hx hb d_M_part_29 (by decide) ?_
  refine bn_ge (a1 := 3) (b1 := 4) (tgt := 162) hx hb (by omega) (by omega) d_M_part_30 (by decide) (fun c_40 => ?_) (fun c_40 => ?_)
  · exact absurd c_40 (by decide)
  refine lv_aload_n hx hb d_M_part_33 rfl (lv_at hl 2 rfl) ?_
  refine va_get (D := D) (ci := 1) (v := .ref qb) (C := R_M) (T := T_M) (N := 7) hx hb hts (ui_M _) hown hK hP 0 rfl rfl 4 (by decide) (hts _ (gwc gw_532)) (fun _ h9 => h9) rfl d_M_part_34 ?_
  refine lv_iconst (v := 2) hx hb d_M_part_37 (by decide) ?_
  refine lv_iload_n hx hb d_M_part_38 rfl (lv_at hl 0 rfl) ?_
  refine lv_imul hx hb d_M_part_39 ?_
  refine tp_i (6) (by decide) ?_
  refine lv_aload_n hx hb d_M_part_40 rfl (lv_at hl 2 rfl) ?_
  refine va_get (D := D) (ci := 1) (v := .ref qm) (C := R_M) (T := T_M) (N := 7) hx hb hts (ui_M _) hown hK hP 0 rfl rfl 6 (by decide) (hts _ (gwc gw_534)) (fun _ h9 => h9) rfl d_M_part_41 ?_
  refine lv_iconst (v := 0) hx hb d_M_part_44 (by decide) ?_
  refine ld_l hx hb hK hP 4 2 rfl rfl 0 (by omega) (by omega) d_M_part_45 ?_
  refine tp_l (mixL (mixL (mixL u0 u2 t) (mixL u2 u4 t) t) (mixL (mixL u2 u4 t) (mixL u4 u6 t) t) t) (rfl) ?_
  refine st_l hx hb hK hP hD hS 2 2 rfl rfl 6 (by omega) (by omega) d_M_part_46 (fun H locs hP hD hS => ?_)
  have hP : va_P D cl [(hm, .inr (1, [.ref a, .ref b, .ref qa, .ref qu, .ref qb, .ref qh, .ref qm])), (qu, .inl (cJ, 8, .inr (.inl (f8 u0 u1 u2 u3 u4 u5 u6 u7)))), (qb, .inl (cJ, 8, .inr (.inl (f8 u0 u1 (mixL u0 u2 t) (mixL u1 u3 t) (mixL (mixL u0 u2 t) (mixL u2 u4 t) t) (mixL (mixL u1 u3 t) (mixL u3 u5 t) t) (mixL (mixL (mixL u0 u2 t) (mixL u2 u4 t) t) (mixL (mixL u2 u4 t) (mixL u4 u6 t) t) t) v7)))), (qh, .inl (cJ, 8, .inr (.inl (f8 w0 w1 (mixL (mixL u2 u4 t) (mixL u4 u6 t) t) (mixL (mixL u3 u5 t) (mixL u5 u7 t) t) (mixL u4 u6 t) (mixL u5 u7 t) u6 u7)))), (qm, .inl (cJ, 8, .inr (.inl (f8 (mixL (mixL (mixL u0 u2 t) (mixL u2 u4 t) t) (mixL (mixL u2 u4 t) (mixL u4 u6 t) t) t) (mixL (mixL (mixL u1 u3 t) (mixL u3 u5 t) t) (mixL (mixL u3 u5 t) (mixL u5 u7 t) t) t) (mixL (mixL u2 u4 t) (mixL u4 u6 t) t) (mixL (mixL u3 u5 t) (mixL u5 u7 t) t) (mixL u4 u6 t) (mixL u5 u7 t) u6 u7))))] H := by rw [← f8_6]; exact hP
  have hD : va_D A [(hm, .inr (1, [.ref a, .ref b, .ref qa, .ref qu, .ref qb, .ref qh, .ref qm])), (qu, .inl (cJ, 8, .inr (.inl (f8 u0 u1 u2 u3 u4 u5 u6 u7)))), (qb, .inl (cJ, 8, .inr (.inl (f8 u0 u1 (mixL u0 u2 t) (mixL u1 u3 t) (mixL (mixL u0 u2 t) (mixL u2 u4 t) t) (mixL (mixL u1 u3 t) (mixL u3 u5 t) t) (mixL (mixL (mixL u0 u2 t) (mixL u2 u4 t) t) (mixL (mixL u2 u4 t) (mixL u4 u6 t) t) t) v7)))), (qh, .inl (cJ, 8, .inr (.inl (f8 w0 w1 (mixL (mixL u2 u4 t) (mixL u4 u6 t) t) (mixL (mixL u3 u5 t) (mixL u5 u7 t) t) (mixL u4 u6 t) (mixL u5 u7 t) u6 u7)))), (qm, .inl (cJ, 8, .inr (.inl (f8 (mixL (mixL (mixL u0 u2 t) (mixL u2 u4 t) t) (mixL (mixL u2 u4 t) (mixL u4 u6 t) t) t) (mixL (mixL (mixL u1 u3 t) (mixL u3 u5 t) t) (mixL (mixL u3 u5 t) (mixL u5 u7 t) t) t) (mixL (mixL u2 u4 t) (mixL u4 u6 t) t) (mixL (mixL u3 u5 t) (mixL u5 u7 t) t) (mixL u4 u6 t) (mixL u5 u7 t) u6 u7))))] := by rw [← f8_6]; exact hD
  refine lv_aload_n hx hb d_M_part_47 rfl (lv_at hl 2 rfl) ?_
  refine va_get (D := D) (ci := 1) (v := .ref qb) (C := R_M) (T := T_M) (N := 7) hx hb hts (ui_M _) hown hK hP 0 rfl rfl 4 (by decide) (hts _ (gwc gw_532)) (fun _ h9 => h9) rfl d_M_part_48 ?_
  refine lv_iconst (v := 2) hx hb d_M_part_51 (by decide) ?_
  refine lv_iload_n hx hb d_M_part_52 rfl (lv_at hl 0 rfl) ?_
  refine lv_imul hx hb d_M_part_53 ?_
  refine tp_i (6) (by decide) ?_
  refine lv_iconst (v := 1) hx hb d_M_part_54 (by decide) ?_
  refine lv_iadd hx hb d_M_part_55 ?_
  refine tp_i (7) (by decide) ?_
  refine lv_aload_n hx hb d_M_part_56 rfl (lv_at hl 2 rfl) ?_
  refine va_get (D := D) (ci := 1) (v := .ref qm) (C := R_M) (T := T_M) (N := 7) hx hb hts (ui_M _) hown hK hP 0 rfl rfl 6 (by decide) (hts _ (gwc gw_534)) (fun _ h9 => h9) rfl d_M_part_57 ?_
  refine lv_iconst (v := 1) hx hb d_M_part_60 (by decide) ?_
  refine ld_l hx hb hK hP 4 2 rfl rfl 1 (by omega) (by omega) d_M_part_61 ?_
  refine tp_l (mixL (mixL (mixL u1 u3 t) (mixL u3 u5 t) t) (mixL (mixL u3 u5 t) (mixL u5 u7 t) t) t) (rfl) ?_
  refine st_l hx hb hK hP hD hS 2 2 rfl rfl 7 (by omega) (by omega) d_M_part_62 (fun H locs hP hD hS => ?_)
  have hP : va_P D cl [(hm, .inr (1, [.ref a, .ref b, .ref qa, .ref qu, .ref qb, .ref qh, .ref qm])), (qu, .inl (cJ, 8, .inr (.inl (f8 u0 u1 u2 u3 u4 u5 u6 u7)))), (qb, .inl (cJ, 8, .inr (.inl (f8 u0 u1 (mixL u0 u2 t) (mixL u1 u3 t) (mixL (mixL u0 u2 t) (mixL u2 u4 t) t) (mixL (mixL u1 u3 t) (mixL u3 u5 t) t) (mixL (mixL (mixL u0 u2 t) (mixL u2 u4 t) t) (mixL (mixL u2 u4 t) (mixL u4 u6 t) t) t) (mixL (mixL (mixL u1 u3 t) (mixL u3 u5 t) t) (mixL (mixL u3 u5 t) (mixL u5 u7 t) t) t))))), (qh, .inl (cJ, 8, .inr (.inl (f8 w0 w1 (mixL (mixL u2 u4 t) (mixL u4 u6 t) t) (mixL (mixL u3 u5 t) (mixL u5 u7 t) t) (mixL u4 u6 t) (mixL u5 u7 t) u6 u7)))), (qm, .inl (cJ, 8, .inr (.inl (f8 (mixL (mixL (mixL u0 u2 t) (mixL u2 u4 t) t) (mixL (mixL u2 u4 t) (mixL u4 u6 t) t) t) (mixL (mixL (mixL u1 u3 t) (mixL u3 u5 t) t) (mixL (mixL u3 u5 t) (mixL u5 u7 t) t) t) (mixL (mixL u2 u4 t) (mixL u4 u6 t) t) (mixL (mixL u3 u5 t) (mixL u5 u7 t) t) (mixL u4 u6 t) (mixL u5 u7 t) u6 u7))))] H := by rw [← f8_7]; exact hP
  have hD : va_D A [(hm, .inr (1, [.ref a, .ref b, .ref qa, .ref qu, .ref qb, .ref qh, .ref qm])), (qu, .inl (cJ, 8, .inr (.inl (f8 u0 u1 u2 u3 u4 u5 u6 u7)))), (qb, .inl (cJ, 8, .inr (.inl (f8 u0 u1 (mixL u0 u2 t) (mixL u1 u3 t) (mixL (mixL u0 u2 t) (mixL u2 u4 t) t) (mixL (mixL u1 u3 t) (mixL u3 u5 t) t) (mixL (mixL (mixL u0 u2 t) (mixL u2 u4 t) t) (mixL (mixL u2 u4 t) (mixL u4 u6 t) t) t) (mixL (mixL (mixL u1 u3 t) (mixL u3 u5 t) t) (mixL (mixL u3 u5 t) (mixL u5 u7 t) t) t))))), (qh, .inl (cJ, 8, .inr (.inl (f8 w0 w1 (mixL (mixL u2 u4 t) (mixL u4 u6 t) t) (mixL (mixL u3 u5 t) (mixL u5 u7 t) t) (mixL u4 u6 t) (mixL u5 u7 t) u6 u7)))), (qm, .inl (cJ, 8, .inr (.inl (f8 (mixL (mixL (mixL u0 u2 t) (mixL u2 u4 t) t) (mixL (mixL u2 u4 t) (mixL u4 u6 t) t) t) (mixL (mixL (mixL u1 u3 t) (mixL u3 u5 t) t) (mixL (mixL u3 u5 t) (mixL u5 u7 t) t) t) (mixL (mixL u2 u4 t) (mixL u4 u6 t) t) (mixL (mixL u3 u5 t) (mixL u5 u7 t) t) (mixL u4 u6 t) (mixL u5 u7 t) u6 u7))))] := by rw [← f8_7]; exact hD
  refine lv_aload_n hx hb d_M_part_63 rfl (lv_at hl 2 rfl) ?_
  refine va_get (D := D) (ci := 1) (v := .ref qh) (C := R_M) (T := T_M) (N := 7) hx hb hts (ui_M _) hown hK hP 0 rfl rfl 5 (by decide) (hts _ (gwc gw_533)) (fun _ h9 => h9) rfl d_M_part_64 ?_
  refine lv_bipush (v := 6) hx hb d_M_part_67 (by decide) ?_
  refine lv_iconst (v := 2) hx hb d_M_part_69 (by decide) ?_
  refine lv_iload_n hx hb d_M_part_70 rfl (lv_at hl 0 rfl) ?_
  refine lv_imul hx hb d_M_part_71 ?_
  refine tp_i (6) (by decide) ?_
  refine lv_isub hx hb d_M_part_72 ?_
  refine tp_i (0) (by decide) ?_
  refine lv_aload_n hx hb d_M_part_73 rfl (lv_at hl 2 rfl) ?_
  refine va_get (D := D) (ci := 1) (v := .ref qm) (C := R_M) (T := T_M) (N := 7) hx hb hts (ui_M _) hown hK hP 0 rfl rfl 6 (by decide) (hts _ (gwc gw_534)) (fun _ h9 => h9) rfl d_M_part_74 ?_
  refine lv_bipush (v := 6) hx hb d_M_part_77 (by decide) ?_
  refine lv_iconst (v := 2) hx hb d_M_part_79 (by decide) ?_
  refine lv_iload_n hx hb d_M_part_80 rfl (lv_at hl 0 rfl) ?_
  refine lv_imul hx hb d_M_part_81 ?_
  refine tp_i (6) (by decide) ?_
  refine lv_isub hx hb d_M_part_82 ?_
  refine tp_i (0) (by decide) ?_
  refine ld_l hx hb hK hP 4 2 rfl rfl 0 (by omega) (by omega) d_M_part_83 ?_
  refine tp_l (mixL (mixL (mixL u0 u2 t) (mixL u2 u4 t) t) (mixL (mixL u2 u4 t) (mixL u4 u6 t) t) t) (rfl) ?_
  refine st_l hx hb hK hP hD hS 3 2 rfl rfl 0 (by omega) (by omega) d_M_part_84 (fun H locs hP hD hS => ?_)
  have hP : va_P D cl [(hm, .inr (1, [.ref a, .ref b, .ref qa, .ref qu, .ref qb, .ref qh, .ref qm])), (qu, .inl (cJ, 8, .inr (.inl (f8 u0 u1 u2 u3 u4 u5 u6 u7)))), (qb, .inl (cJ, 8, .inr (.inl (f8 u0 u1 (mixL u0 u2 t) (mixL u1 u3 t) (mixL (mixL u0 u2 t) (mixL u2 u4 t) t) (mixL (mixL u1 u3 t) (mixL u3 u5 t) t) (mixL (mixL (mixL u0 u2 t) (mixL u2 u4 t) t) (mixL (mixL u2 u4 t) (mixL u4 u6 t) t) t) (mixL (mixL (mixL u1 u3 t) (mixL u3 u5 t) t) (mixL (mixL u3 u5 t) (mixL u5 u7 t) t) t))))), (qh, .inl (cJ, 8, .inr (.inl (f8 (mixL (mixL (mixL u0 u2 t) (mixL u2 u4 t) t) (mixL (mixL u2 u4 t) (mixL u4 u6 t) t) t) w1 (mixL (mixL u2 u4 t) (mixL u4 u6 t) t) (mixL (mixL u3 u5 t) (mixL u5 u7 t) t) (mixL u4 u6 t) (mixL u5 u7 t) u6 u7)))), (qm, .inl (cJ, 8, .inr (.inl (f8 (mixL (mixL (mixL u0 u2 t) (mixL u2 u4 t) t) (mixL (mixL u2 u4 t) (mixL u4 u6 t) t) t) (mixL (mixL (mixL u1 u3 t) (mixL u3 u5 t) t) (mixL (mixL u3 u5 t) (mixL u5 u7 t) t) t) (mixL (mixL u2 u4 t) (mixL u4 u6 t) t) (mixL (mixL u3 u5 t) (mixL u5 u7 t) t) (mixL u4 u6 t) (mixL u5 u7 t) u6 u7))))] H := by rw [← f8_0]; exact hP
  have hD : va_D A [(hm, .inr (1, [.ref a, .ref b, .ref qa, .ref qu, .ref qb, .ref qh, .ref qm])), (qu, .inl (cJ, 8, .inr (.inl (f8 u0 u1 u2 u3 u4 u5 u6 u7)))), (qb, .inl (cJ, 8, .inr (.inl (f8 u0 u1 (mixL u0 u2 t) (mixL u1 u3 t) (mixL (mixL u0 u2 t) (mixL u2 u4 t) t) (mixL (mixL u1 u3 t) (mixL u3 u5 t) t) (mixL (mixL (mixL u0 u2 t) (mixL u2 u4 t) t) (mixL (mixL u2 u4 t) (mixL u4 u6 t) t) t) (mixL (mixL (mixL u1 u3 t) (mixL u3 u5 t) t) (mixL (mixL u3 u5 t) (mixL u5 u7 t) t) t))))), (qh, .inl (cJ, 8, .inr (.inl (f8 (mixL (mixL (mixL u0 u2 t) (mixL u2 u4 t) t) (mixL (mixL u2 u4 t) (mixL u4 u6 t) t) t) w1 (mixL (mixL u2 u4 t) (mixL u4 u6 t) t) (mixL (mixL u3 u5 t) (mixL u5 u7 t) t) (mixL u4 u6 t) (mixL u5 u7 t) u6 u7)))), (qm, .inl (cJ, 8, .inr (.inl (f8 (mixL (mixL (mixL u0 u2 t) (mixL u2 u4 t) t) (mixL (mixL u2 u4 t) (mixL u4 u6 t) t) t) (mixL (mixL (mixL u1 u3 t) (mixL u3 u5 t) t) (mixL (mixL u3 u5 t) (mixL u5 u7 t) t) t) (mixL (mixL u2 u4 t) (mixL u4 u6 t) t) (mixL (mixL u3 u5 t) (mixL u5 u7 t) t) (mixL u4 u6 t) (mixL u5 u7 t) u6 u7))))] := by rw [← f8_0]; exact hD
  refine lv_aload_n hx hb d_M_part_85 rfl (lv_at hl 2 rfl) ?_
  refine va_get (D := D) (ci := 1) (v := .ref qh) (C := R_M) (T := T_M) (N := 7) hx hb hts (ui_M _) hown hK hP 0 rfl rfl 5 (by decide) (hts _ (gwc gw_533)) (fun _ h9 => h9) rfl d_M_part_86 ?_
  refine lv_bipush (v := 7) hx hb d_M_part_89 (by decide) ?_
  refine lv_iconst (v := 2) hx hb d_M_part_91 (by decide) ?_
  refine lv_iload_n hx hb d_M_part_92 rfl (lv_at hl 0 rfl) ?_
  refine lv_imul hx hb d_M_part_93 ?_
  refine tp_i (6) (by decide) ?_
  refine lv_isub hx hb d_M_part_94 ?_
  refine tp_i (1) (by decide) ?_
  refine lv_aload_n hx hb d_M_part_95 rfl (lv_at hl 2 rfl) ?_
  refine va_get (D := D) (ci := 1) (v := .ref qm) (C := R_M) (T := T_M) (N := 7) hx hb hts (ui_M _) hown hK hP 0 rfl rfl 6 (by decide) (hts _ (gwc gw_534)) (fun _ h9 => h9) rfl d_M_part_96 ?_
  refine lv_bipush (v := 7) hx hb d_M_part_99 (by decide) ?_
  refine lv_iconst (v := 2) hx hb d_M_part_101 (by decide) ?_
  refine lv_iload_n hx hb d_M_part_102 rfl (lv_at hl 0 rfl) ?_
  refine lv_imul hx hb d_M_part_103 ?_
  refine tp_i (6) (by decide) ?_
  refine lv_isub hx hb d_M_part_104 ?_
  refine tp_i (1) (by decide) ?_
  refine ld_l hx hb hK hP 4 2 rfl rfl 1 (by omega) (by omega) d_M_part_105 ?_
  refine tp_l (mixL (mixL (mixL u1 u3 t) (mixL u3 u5 t) t) (mixL (mixL u3 u5 t) (mixL u5 u7 t) t) t) (rfl) ?_
  refine st_l hx hb hK hP hD hS 3 2 rfl rfl 1 (by omega) (by omega) d_M_part_106 (fun H locs hP hD hS => ?_)
  have hP : va_P D cl [(hm, .inr (1, [.ref a, .ref b, .ref qa, .ref qu, .ref qb, .ref qh, .ref qm])), (qu, .inl (cJ, 8, .inr (.inl (f8 u0 u1 u2 u3 u4 u5 u6 u7)))), (qb, .inl (cJ, 8, .inr (.inl (f8 u0 u1 (mixL u0 u2 t) (mixL u1 u3 t) (mixL (mixL u0 u2 t) (mixL u2 u4 t) t) (mixL (mixL u1 u3 t) (mixL u3 u5 t) t) (mixL (mixL (mixL u0 u2 t) (mixL u2 u4 t) t) (mixL (mixL u2 u4 t) (mixL u4 u6 t) t) t) (mixL (mixL (mixL u1 u3 t) (mixL u3 u5 t) t) (mixL (mixL u3 u5 t) (mixL u5 u7 t) t) t))))), (qh, .inl (cJ, 8, .inr (.inl (f8 (mixL (mixL (mixL u0 u2 t) (mixL u2 u4 t) t) (mixL (mixL u2 u4 t) (mixL u4 u6 t) t) t) (mixL (mixL (mixL u1 u3 t) (mixL u3 u5 t) t) (mixL (mixL u3 u5 t) (mixL u5 u7 t) t) t) (mixL (mixL u2 u4 t) (mixL u4 u6 t) t) (mixL (mixL u3 u5 t) (mixL u5 u7 t) t) (mixL u4 u6 t) (mixL u5 u7 t) u6 u7)))), (qm, .inl (cJ, 8, .inr (.inl (f8 (mixL (mixL (mixL u0 u2 t) (mixL u2 u4 t) t) (mixL (mixL u2 u4 t) (mixL u4 u6 t) t) t) (mixL (mixL (mixL u1 u3 t) (mixL u3 u5 t) t) (mixL (mixL u3 u5 t) (mixL u5 u7 t) t) t) (mixL (mixL u2 u4 t) (mixL u4 u6 t) t) (mixL (mixL u3 u5 t) (mixL u5 u7 t) t) (mixL u4 u6 t) (mixL u5 u7 t) u6 u7))))] H := by rw [← f8_1]; exact hP
  have hD : va_D A [(hm, .inr (1, [.ref a, .ref b, .ref qa, .ref qu, .ref qb, .ref qh, .ref qm])), (qu, .inl (cJ, 8, .inr (.inl (f8 u0 u1 u2 u3 u4 u5 u6 u7)))), (qb, .inl (cJ, 8, .inr (.inl (f8 u0 u1 (mixL u0 u2 t) (mixL u1 u3 t) (mixL (mixL u0 u2 t) (mixL u2 u4 t) t) (mixL (mixL u1 u3 t) (mixL u3 u5 t) t) (mixL (mixL (mixL u0 u2 t) (mixL u2 u4 t) t) (mixL (mixL u2 u4 t) (mixL u4 u6 t) t) t) (mixL (mixL (mixL u1 u3 t) (mixL u3 u5 t) t) (mixL (mixL u3 u5 t) (mixL u5 u7 t) t) t))))), (qh, .inl (cJ, 8, .inr (.inl (f8 (mixL (mixL (mixL u0 u2 t) (mixL u2 u4 t) t) (mixL (mixL u2 u4 t) (mixL u4 u6 t) t) t) (mixL (mixL (mixL u1 u3 t) (mixL u3 u5 t) t) (mixL (mixL u3 u5 t) (mixL u5 u7 t) t) t) (mixL (mixL u2 u4 t) (mixL u4 u6 t) t) (mixL (mixL u3 u5 t) (mixL u5 u7 t) t) (mixL u4 u6 t) (mixL u5 u7 t) u6 u7)))), (qm, .inl (cJ, 8, .inr (.inl (f8 (mixL (mixL (mixL u0 u2 t) (mixL u2 u4 t) t) (mixL (mixL u2 u4 t) (mixL u4 u6 t) t) t) (mixL (mixL (mixL u1 u3 t) (mixL u3 u5 t) t) (mixL (mixL u3 u5 t) (mixL u5 u7 t) t) t) (mixL (mixL u2 u4 t) (mixL u4 u6 t) t) (mixL (mixL u3 u5 t) (mixL u5 u7 t) t) (mixL u4 u6 t) (mixL u5 u7 t) u6 u7))))] := by rw [← f8_1]; exact hD
  refine lv_iconst (v := 0) hx hb d_M_part_107 (by decide) ?_
  refine lv_istore (lv' := [(4, .int 0), (3, .int 3), (0, .ref hm), (1, .long t)]) hx hb d_M_part_108 hl (by decide) rfl (fun ls hl => ?_)
  refine lv_iload hx hb d_M_part_110 (lv_at hl 0 rfl) ?_
  refine lv_iconst (v := 2) hx hb d_M_part_112 (by decide) ?_
  refine lv_iadd hx hb d_M_part_113 ?_
  refine tp_i (2) (by decide) ?_
  refine lv_bipush (v := 8) hx hb d_M_part_114 (by decide) ?_
  refine lv_iconst (v := 2) hx hb d_M_part_116 (by decide) ?_
  refine lv_iload_n hx hb d_M_part_117 rfl (lv_at hl 1 rfl) ?_
  refine lv_imul hx hb d_M_part_118 ?_
  refine tp_i (6) (by decide) ?_
  refine lv_isub hx hb d_M_part_119 ?_
  refine tp_i (2) (by decide) ?_
  refine bn_ge (a1 := 2) (b1 := 2) (tgt := 156) hx hb (by omega) (by omega) d_M_part_120 (by decide) (fun c_41 => ?_) (fun c_41 => ?_)
  rotate_left
  · exact absurd c_41 (by decide)
  refine lv_iinc (v := 4) (lv' := [(3, .int 4), (4, .int 0), (0, .ref hm), (1, .long t)]) hx hb d_M_part_156 hl (k := 1) rfl (by first | exact nI_add _ 1 | rfl | decide) (by decide) rfl (fun ls hl => ?_)
  refine lv_goto (tgt := 28) hx hb d_M_part_159 (by decide) ?_
  refine lv_iload_n hx hb d_M_part_28 rfl (lv_at hl 0 rfl) ?_
  refine lv_iconst (v := 4) hx hb d_M_part_29 (by decide) ?_
  refine bn_ge (a1 := 4) (b1 := 4) (tgt := 162) hx hb (by omega) (by omega) d_M_part_30 (by decide) (fun c_42 => ?_) (fun c_42 => ?_)
  rotate_left
  · exact absurd c_42 (by decide)
  exact ct_retv hQ hx hb hr hlocks hP hD hS (mixL (mixL (mixL u0 u2 t) (mixL u2 u4 t) t) (mixL (mixL u2 u4 t) (mixL u4 u6 t) t) t, mixL (mixL (mixL u1 u3 t) (mixL u3 u5 t) t) (mixL (mixL u3 u5 t) (mixL u5 u7 t) t) t, mixL (mixL u2 u4 t) (mixL u4 u6 t) t, mixL (mixL u3 u5 t) (mixL u5 u7 t) t, mixL u4 u6 t, mixL u5 u7 t, u6, u7) [(hm, .inr (1, [.ref a, .ref b, .ref qa, .ref qu, .ref qb, .ref qh, .ref qm])), (qu, .inl (cJ, 8, .inr (.inl (f8 u0 u1 u2 u3 u4 u5 u6 u7)))), (qb, .inl (cJ, 8, .inr (.inl (f8 u0 u1 (mixL u0 u2 t) (mixL u1 u3 t) (mixL (mixL u0 u2 t) (mixL u2 u4 t) t) (mixL (mixL u1 u3 t) (mixL u3 u5 t) t) (mixL (mixL (mixL u0 u2 t) (mixL u2 u4 t) t) (mixL (mixL u2 u4 t) (mixL u4 u6 t) t) t) (mixL (mixL (mixL u1 u3 t) (mixL u3 u5 t) t) (mixL (mixL u3 u5 t) (mixL u5 u7 t) t) t))))), (qh, .inl (cJ, 8, .inr (.inl (f8 (mixL (mixL (mixL u0 u2 t) (mixL u2 u4 t) t) (mixL (mixL u2 u4 t) (mixL u4 u6 t) t) t) (mixL (mixL (mixL u1 u3 t) (mixL u3 u5 t) t) (mixL (mixL u3 u5 t) (mixL u5 u7 t) t) t) (mixL (mixL u2 u4 t) (mixL u4 u6 t) t) (mixL (mixL u3 u5 t) (mixL u5 u7 t) t) (mixL u4 u6 t) (mixL u5 u7 t) u6 u7)))), (qm, .inl (cJ, 8, .inr (.inl (f8 (mixL (mixL (mixL u0 u2 t) (mixL u2 u4 t) t) (mixL (mixL u2 u4 t) (mixL u4 u6 t) t) t) (mixL (mixL (mixL u1 u3 t) (mixL u3 u5 t) t) (mixL (mixL u3 u5 t) (mixL u5 u7 t) t) t) (mixL (mixL u2 u4 t) (mixL u4 u6 t) t) (mixL (mixL u3 u5 t) (mixL u5 u7 t) t) (mixL u4 u6 t) (mixL u5 u7 t) u6 u7))))] [0, 1, 2, 3, 4] (rfl) (trivial) (rfl) rfl rfl (by omega) (by omega) d_M_part_162
set_option maxHeartbeats 40000000 in
set_option maxRecDepth 100000 in
/-- cut -/
theorem c_M_cut (l : Launch) (D : va_G) (cI cB cJ : ClassId) (qQ : Nat) (hm : Nat) (a : Nat) (b : Nat) (qa : Nat) (qu : Nat) (qb : Nat) (qh : Nat) (qm : Nat) (u0 : Int64) (u1 : Int64) (u2 : Int64) (u3 : Int64) (u4 : Int64) (u5 : Int64) (u6 : Int64) (u7 : Int64) (v0 : Int64) (v1 : Int64) (v2 : Int64) (v3 : Int64) (v4 : Int64) (v5 : Int64) (v6 : Int64) (v7 : Int64) (w0 : Int64) (w1 : Int64) (w2 : Int64) (w3 : Int64) (w4 : Int64) (w5 : Int64) (w6 : Int64) (w7 : Int64) (g0 : Int64) (g1 : Int64) (g2 : Int64) (g3 : Int64) (g4 : Int64) (g5 : Int64) (g6 : Int64) (g7 : Int64) (z : Int64) (t : Int64) (ht : ¬ 2 * t = 0) : ct l D cl [(cI, .int), (cB, .byte), (cJ, .long)] (amb qQ) y_M_cut w_M_cut 3 74 (0) (0) [.ref hm, .long z, .long t] [(hm, .inr (1, [.ref a, .ref b, .ref qa, .ref qu, .ref qb, .ref qh, .ref qm])), (qu, .inl (cJ, 8, .inr (.inl (f8 u0 u1 u2 u3 u4 u5 u6 u7)))), (qb, .inl (cJ, 8, .inr (.inl (f8 v0 v1 v2 v3 v4 v5 v6 v7)))), (qh, .inl (cJ, 8, .inr (.inl (f8 w0 w1 w2 w3 w4 w5 w6 w7)))), (qm, .inl (cJ, 8, .inr (.inl (f8 g0 g1 g2 g3 g4 g5 g6 g7))))] (fun u_ : Int64 × Int64 × Int64 × Int64 × Int64 × Int64 × Int64 × Int64 × Int64 × Int64 × Int64 × Int64 × Int64 × Int64 × Int64 × Int64 × Int64 × Int64 × Int64 × Int64 × Int64 × Int64 × Int64 × Int64 × Int64 × Int64 × Int64 × Int64 × Int64 × Int64 × Int64 × Int64 => match u_ with | (u0', u1', u2', u3', u4', u5', u6', u7', v0', v1', v2', v3', v4', v5', v6', v7', w0', w1', w2', w3', w4', w5', w6', w7', g0', g1', g2', g3', g4', g5', g6', g7') => (u0', u1', u2', u3', u4', u5', u6', u7') = cut8 (u0, u1, u2, u3, u4, u5, u6, u7) z t) (fun u_ : Int64 × Int64 × Int64 × Int64 × Int64 × Int64 × Int64 × Int64 × Int64 × Int64 × Int64 × Int64 × Int64 × Int64 × Int64 × Int64 × Int64 × Int64 × Int64 × Int64 × Int64 × Int64 × Int64 × Int64 × Int64 × Int64 × Int64 × Int64 × Int64 × Int64 × Int64 × Int64 => match u_ with | (u0', u1', u2', u3', u4', u5', u6', u7', v0', v1', v2', v3', v4', v5', v6', v7', w0', w1', w2', w3', w4', w5', w6', w7', g0', g1', g2', g3', g4', g5', g6', g7') => none) (fun u_ : Int64 × Int64 × Int64 × Int64 × Int64 × Int64 × Int64 × Int64 × Int64 × Int64 × Int64 × Int64 × Int64 × Int64 × Int64 × Int64 × Int64 × Int64 × Int64 × Int64 × Int64 × Int64 × Int64 × Int64 × Int64 × Int64 × Int64 × Int64 × Int64 × Int64 × Int64 × Int64 => match u_ with | (u0', u1', u2', u3', u4', u5', u6', u7', v0', v1', v2', v3', v4', v5', v6', v7', w0', w1', w2', w3', w4', w5', w6', w7', g0', g1', g2', g3', g4', g5', g6', g7') => [(hm, .inr (1, [.ref a, .ref b, .ref qa, .ref qu, .ref qb, .ref qh, .ref qm])), (qu, .inl (cJ, 8, .inr (.inl (f8 u0' u1' u2' u3' u4' u5' u6' u7')))), (qb, .inl (cJ, 8, .inr (.inl (f8 v0' v1' v2' v3' v4' v5' v6' v7')))), (qh, .inl (cJ, 8, .inr (.inl (f8 w0' w1' w2' w3' w4' w5' w6' w7')))), (qm, .inl (cJ, 8, .inr (.inl (f8 g0' g1' g2' g3' g4' g5' g6' g7'))))]) := by
  refine ct_ofW (cc := b_M_cut) (maxL := 6) (ret := none) (by decide) rfl (Nat.le_of_ble_eq_true rfl) ?_
  intro p e R s m args below meth c A Q ls hx hb hr hml hts hown hlocks hname hRf hRc hRs hRl hQ hK hP hD hS hA hM hl
  have hl : lv_has ls 6 [(0, .ref hm), (1, .long z), (3, .long t)] := hl
  refine lv_aload_n hx hb d_M_cut_0 rfl (lv_at hl 0 rfl) ?_
  refine lv_lload_n hx hb d_M_cut_1 rfl (lv_at hl 2 rfl) ?_
  refine ct_callV (ci := 1) (q0 := 0) (As := [.long t]) (rest := []) (wr := []) (n := 1) (c_M_part l D cI cB cJ qQ hm a b qa qu qb qh qm u0 u1 u2 u3 u4 u5 u6 u7 v0 v1 v2 v3 v4 v5 v6 v7 w0 w1 w2 w3 w4 w5 w6 w7 g0 g1 g2 g3 g4 g5 g6 g7 t ) hx hb hml hown hts (amb_ok qQ) hK hP hD hS hA hM (gi_V gw_665 gw_667 gw_22 gw_33 gw_668) rfl (by decide +kernel) ⟨by omega, by omega⟩ [0, 1, 2, 3, 4] [] rfl rfl rfl rfl (by decide) rfl rfl rfl hl.1 rfl (Nat.le_of_ble_eq_true rfl) d_M_cut_2 ⟨by omega, by omega⟩ (fun u_1 H locs hok hP hD hS => ?_)
  obtain ⟨g0'_2, g1'_3, g2'_4, g3'_5, g4'_6, g5'_7, g6'_8, g7'_9⟩ := u_1
  have hP : va_P D cl [(hm, .inr (1, [.ref a, .ref b, .ref qa, .ref qu, .ref qb, .ref qh, .ref qm])), (qu, .inl (cJ, 8, .inr (.inl (f8 u0 u1 u2 u3 u4 u5 u6 u7)))), (qb, .inl (cJ, 8, .inr (.inl (f8 u0 u1 (mixL u0 u2 t) (mixL u1 u3 t) (mx2 u0 u2 u4 t) (mx2 u1 u3 u5 t) (mx3 u0 u2 u4 u6 t) (mx3 u1 u3 u5 u7 t))))), (qh, .inl (cJ, 8, .inr (.inl (f8 (mx3 u0 u2 u4 u6 t) (mx3 u1 u3 u5 u7 t) (mx2 u2 u4 u6 t) (mx2 u3 u5 u7 t) (mixL u4 u6 t) (mixL u5 u7 t) u6 u7)))), (qm, .inl (cJ, 8, .inr (.inl (f8 g0'_2 g1'_3 g2'_4 g3'_5 g4'_6 g5'_7 g6'_8 g7'_9))))] H := hP
  have hD : va_D A [(hm, .inr (1, [.ref a, .ref b, .ref qa, .ref qu, .ref qb, .ref qh, .ref qm])), (qu, .inl (cJ, 8, .inr (.inl (f8 u0 u1 u2 u3 u4 u5 u6 u7)))), (qb, .inl (cJ, 8, .inr (.inl (f8 u0 u1 (mixL u0 u2 t) (mixL u1 u3 t) (mx2 u0 u2 u4 t) (mx2 u1 u3 u5 t) (mx3 u0 u2 u4 u6 t) (mx3 u1 u3 u5 u7 t))))), (qh, .inl (cJ, 8, .inr (.inl (f8 (mx3 u0 u2 u4 u6 t) (mx3 u1 u3 u5 u7 t) (mx2 u2 u4 u6 t) (mx2 u3 u5 u7 t) (mixL u4 u6 t) (mixL u5 u7 t) u6 u7)))), (qm, .inl (cJ, 8, .inr (.inl (f8 g0'_2 g1'_3 g2'_4 g3'_5 g4'_6 g5'_7 g6'_8 g7'_9))))] := hD
  refine W.eq (g2 := F0 m 5 ls []) rfl ?_
  refine lv_iconst (v := 0) hx hb d_M_cut_5 (by decide) ?_
  refine lv_istore (lv' := [(5, .int 0), (0, .ref hm), (1, .long z), (3, .long t)]) hx hb d_M_cut_6 hl (by decide) rfl (fun ls hl => ?_)
  refine lv_iload hx hb d_M_cut_8 (lv_at hl 0 rfl) ?_
  refine lv_bipush (v := 8) hx hb d_M_cut_10 (by decide) ?_
  refine bn_ge (a1 := 0) (b1 := 8) (tgt := 35) hx hb (by omega) (by omega) d_M_cut_12 (by decide) (fun c_10 => ?_) (fun c_10 => ?_)
  · exact absurd c_10 (by decide)
  refine lv_aload_n hx hb d_M_cut_15 rfl (lv_at hl 1 rfl) ?_
  refine va_get (D := D) (ci := 1) (v := .ref qu) (C := R_M) (T := T_M) (N := 7) hx hb hts (ui_M _) hown hK hP 0 rfl rfl 3 (by decide) (hts _ (gwc gw_531)) (fun _ h9 => h9) rfl d_M_cut_16 ?_
  refine lv_iload hx hb d_M_cut_19 (lv_at hl 0 rfl) ?_
  refine lv_aload_n hx hb d_M_cut_21 rfl (lv_at hl 1 rfl) ?_
  refine va_get (D := D) (ci := 1) (v := .ref qb) (C := R_M) (T := T_M) (N := 7) hx hb hts (ui_M _) hown hK hP 0 rfl rfl 4 (by decide) (hts _ (gwc gw_532)) (fun _ h9 => h9) rfl d_M_cut_22 ?_
  refine lv_iload hx hb d_M_cut_25 (lv_at hl 0 rfl) ?_
  refine ld_l hx hb hK hP 2 2 rfl rfl 0 (by omega) (by omega) d_M_cut_27 ?_
  refine tp_l (u0) (rfl) ?_
  refine st_l hx hb hK hP hD hS 1 2 rfl rfl 0 (by omega) (by omega) d_M_cut_28 (fun H locs hP hD hS => ?_)
  have hP : va_P D cl [(hm, .inr (1, [.ref a, .ref b, .ref qa, .ref qu, .ref qb, .ref qh, .ref qm])), (qu, .inl (cJ, 8, .inr (.inl (f8 u0 u1 u2 u3 u4 u5 u6 u7)))), (qb, .inl (cJ, 8, .inr (.inl (f8 u0 u1 (mixL u0 u2 t) (mixL u1 u3 t) (mx2 u0 u2 u4 t) (mx2 u1 u3 u5 t) (mx3 u0 u2 u4 u6 t) (mx3 u1 u3 u5 u7 t))))), (qh, .inl (cJ, 8, .inr (.inl (f8 (mx3 u0 u2 u4 u6 t) (mx3 u1 u3 u5 u7 t) (mx2 u2 u4 u6 t) (mx2 u3 u5 u7 t) (mixL u4 u6 t) (mixL u5 u7 t) u6 u7)))), (qm, .inl (cJ, 8, .inr (.inl (f8 g0'_2 g1'_3 g2'_4 g3'_5 g4'_6 g5'_7 g6'_8 g7'_9))))] H := by rw [← f8_0]; exact hP
  have hD : va_D A [(hm, .inr (1, [.ref a, .ref b, .ref qa, .ref qu, .ref qb, .ref qh, .ref qm])), (qu, .inl (cJ, 8, .inr (.inl (f8 u0 u1 u2 u3 u4 u5 u6 u7)))), (qb, .inl (cJ, 8, .inr (.inl (f8 u0 u1 (mixL u0 u2 t) (mixL u1 u3 t) (mx2 u0 u2 u4 t) (mx2 u1 u3 u5 t) (mx3 u0 u2 u4 u6 t) (mx3 u1 u3 u5 u7 t))))), (qh, .inl (cJ, 8, .inr (.inl (f8 (mx3 u0 u2 u4 u6 t) (mx3 u1 u3 u5 u7 t) (mx2 u2 u4 u6 t) (mx2 u3 u5 u7 t) (mixL u4 u6 t) (mixL u5 u7 t) u6 u7)))), (qm, .inl (cJ, 8, .inr (.inl (f8 g0'_2 g1'_3 g2'_4 g3'_5 g4'_6 g5'_7 g6'_8 g7'_9))))] := by rw [← f8_0]; exact hD
  refine lv_iinc (v := 1) (lv' := [(5, .int 1), (0, .ref hm), (1, .long z), (3, .long t)]) hx hb d_M_cut_29 hl (k := 0) rfl (by first | exact nI_add _ 1 | rfl | decide) (by decide) rfl (fun ls hl => ?_)
  refine lv_goto (tgt := 8) hx hb d_M_cut_32 (by decide) ?_
  refine lv_iload hx hb d_M_cut_8 (lv_at hl 0 rfl) ?_
  refine lv_bipush (v := 8) hx hb d_M_cut_10 (by decide) ?_
  refine bn_ge (a1 := 1) (b1 := 8) (tgt := 35) hx hb (by omega) (by omega) d_M_cut_12 (by decide) (fun c_11 => ?_) (fun c_11 => ?_)
  · exact absurd c_11 (by decide)
  refine lv_aload_n hx hb d_M_cut_15 rfl (lv_at hl 1 rfl) ?_
  refine va_get (D := D) (ci := 1) (v := .ref qu) (C := R_M) (T := T_M) (N := 7) hx hb hts (ui_M _) hown hK hP 0 rfl rfl 3 (by decide) (hts _ (gwc gw_531)) (fun _ h9 => h9) rfl d_M_cut_16 ?_
  refine lv_iload hx hb d_M_cut_19 (lv_at hl 0 rfl) ?_
  refine lv_aload_n hx hb d_M_cut_21 rfl (lv_at hl 1 rfl) ?_
  refine va_get (D := D) (ci := 1) (v := .ref qb) (C := R_M) (T := T_M) (N := 7) hx hb hts (ui_M _) hown hK hP 0 rfl rfl 4 (by decide) (hts _ (gwc gw_532)) (fun _ h9 => h9) rfl d_M_cut_22 ?_
  refine lv_iload hx hb d_M_cut_25 (lv_at hl 0 rfl) ?_
  refine ld_l hx hb hK hP 2 2 rfl rfl 1 (by omega) (by omega) d_M_cut_27 ?_
  refine tp_l (u1) (rfl) ?_
  refine st_l hx hb hK hP hD hS 1 2 rfl rfl 1 (by omega) (by omega) d_M_cut_28 (fun H locs hP hD hS => ?_)
  have hP : va_P D cl [(hm, .inr (1, [.ref a, .ref b, .ref qa, .ref qu, .ref qb, .ref qh, .ref qm])), (qu, .inl (cJ, 8, .inr (.inl (f8 u0 u1 u2 u3 u4 u5 u6 u7)))), (qb, .inl (cJ, 8, .inr (.inl (f8 u0 u1 (mixL u0 u2 t) (mixL u1 u3 t) (mx2 u0 u2 u4 t) (mx2 u1 u3 u5 t) (mx3 u0 u2 u4 u6 t) (mx3 u1 u3 u5 u7 t))))), (qh, .inl (cJ, 8, .inr (.inl (f8 (mx3 u0 u2 u4 u6 t) (mx3 u1 u3 u5 u7 t) (mx2 u2 u4 u6 t) (mx2 u3 u5 u7 t) (mixL u4 u6 t) (mixL u5 u7 t) u6 u7)))), (qm, .inl (cJ, 8, .inr (.inl (f8 g0'_2 g1'_3 g2'_4 g3'_5 g4'_6 g5'_7 g6'_8 g7'_9))))] H := by rw [← f8_1]; exact hP
  have hD : va_D A [(hm, .inr (1, [.ref a, .ref b, .ref qa, .ref qu, .ref qb, .ref qh, .ref qm])), (qu, .inl (cJ, 8, .inr (.inl (f8 u0 u1 u2 u3 u4 u5 u6 u7)))), (qb, .inl (cJ, 8, .inr (.inl (f8 u0 u1 (mixL u0 u2 t) (mixL u1 u3 t) (mx2 u0 u2 u4 t) (mx2 u1 u3 u5 t) (mx3 u0 u2 u4 u6 t) (mx3 u1 u3 u5 u7 t))))), (qh, .inl (cJ, 8, .inr (.inl (f8 (mx3 u0 u2 u4 u6 t) (mx3 u1 u3 u5 u7 t) (mx2 u2 u4 u6 t) (mx2 u3 u5 u7 t) (mixL u4 u6 t) (mixL u5 u7 t) u6 u7)))), (qm, .inl (cJ, 8, .inr (.inl (f8 g0'_2 g1'_3 g2'_4 g3'_5 g4'_6 g5'_7 g6'_8 g7'_9))))] := by rw [← f8_1]; exact hD
  refine lv_iinc (v := 2) (lv' := [(5, .int 2), (0, .ref hm), (1, .long z), (3, .long t)]) hx hb d_M_cut_29 hl (k := 0) rfl (by first | exact nI_add _ 1 | rfl | decide) (by decide) rfl (fun ls hl => ?_)
  refine lv_goto (tgt := 8) hx hb d_M_cut_32 (by decide) ?_
  refine lv_iload hx hb d_M_cut_8 (lv_at hl 0 rfl) ?_
  refine lv_bipush (v := 8) hx hb d_M_cut_10 (by decide) ?_
  refine bn_ge (a1 := 2) (b1 := 8) (tgt := 35) hx hb (by omega) (by omega) d_M_cut_12 (by decide) (fun c_12 => ?_) (fun c_12 => ?_)
  · exact absurd c_12 (by decide)
  refine lv_aload_n hx hb d_M_cut_15 rfl (lv_at hl 1 rfl) ?_
  refine va_get (D := D) (ci := 1) (v := .ref qu) (C := R_M) (T := T_M) (N := 7) hx hb hts (ui_M _) hown hK hP 0 rfl rfl 3 (by decide) (hts _ (gwc gw_531)) (fun _ h9 => h9) rfl d_M_cut_16 ?_
  refine lv_iload hx hb d_M_cut_19 (lv_at hl 0 rfl) ?_
  refine lv_aload_n hx hb d_M_cut_21 rfl (lv_at hl 1 rfl) ?_
  refine va_get (D := D) (ci := 1) (v := .ref qb) (C := R_M) (T := T_M) (N := 7) hx hb hts (ui_M _) hown hK hP 0 rfl rfl 4 (by decide) (hts _ (gwc gw_532)) (fun _ h9 => h9) rfl d_M_cut_22 ?_
  refine lv_iload hx hb d_M_cut_25 (lv_at hl 0 rfl) ?_
  refine ld_l hx hb hK hP 2 2 rfl rfl 2 (by omega) (by omega) d_M_cut_27 ?_
  refine tp_l (mixL u0 u2 t) (rfl) ?_
  refine st_l hx hb hK hP hD hS 1 2 rfl rfl 2 (by omega) (by omega) d_M_cut_28 (fun H locs hP hD hS => ?_)
  have hP : va_P D cl [(hm, .inr (1, [.ref a, .ref b, .ref qa, .ref qu, .ref qb, .ref qh, .ref qm])), (qu, .inl (cJ, 8, .inr (.inl (f8 u0 u1 (mixL u0 u2 t) u3 u4 u5 u6 u7)))), (qb, .inl (cJ, 8, .inr (.inl (f8 u0 u1 (mixL u0 u2 t) (mixL u1 u3 t) (mx2 u0 u2 u4 t) (mx2 u1 u3 u5 t) (mx3 u0 u2 u4 u6 t) (mx3 u1 u3 u5 u7 t))))), (qh, .inl (cJ, 8, .inr (.inl (f8 (mx3 u0 u2 u4 u6 t) (mx3 u1 u3 u5 u7 t) (mx2 u2 u4 u6 t) (mx2 u3 u5 u7 t) (mixL u4 u6 t) (mixL u5 u7 t) u6 u7)))), (qm, .inl (cJ, 8, .inr (.inl (f8 g0'_2 g1'_3 g2'_4 g3'_5 g4'_6 g5'_7 g6'_8 g7'_9))))] H := by rw [← f8_2]; exact hP
  have hD : va_D A [(hm, .inr (1, [.ref a, .ref b, .ref qa, .ref qu, .ref qb, .ref qh, .ref qm])), (qu, .inl (cJ, 8, .inr (.inl (f8 u0 u1 (mixL u0 u2 t) u3 u4 u5 u6 u7)))), (qb, .inl (cJ, 8, .inr (.inl (f8 u0 u1 (mixL u0 u2 t) (mixL u1 u3 t) (mx2 u0 u2 u4 t) (mx2 u1 u3 u5 t) (mx3 u0 u2 u4 u6 t) (mx3 u1 u3 u5 u7 t))))), (qh, .inl (cJ, 8, .inr (.inl (f8 (mx3 u0 u2 u4 u6 t) (mx3 u1 u3 u5 u7 t) (mx2 u2 u4 u6 t) (mx2 u3 u5 u7 t) (mixL u4 u6 t) (mixL u5 u7 t) u6 u7)))), (qm, .inl (cJ, 8, .inr (.inl (f8 g0'_2 g1'_3 g2'_4 g3'_5 g4'_6 g5'_7 g6'_8 g7'_9))))] := by rw [← f8_2]; exact hD
  refine lv_iinc (v := 3) (lv' := [(5, .int 3), (0, .ref hm), (1, .long z), (3, .long t)]) hx hb d_M_cut_29 hl (k := 0) rfl (by first | exact nI_add _ 1 | rfl | decide) (by decide) rfl (fun ls hl => ?_)
  refine lv_goto (tgt := 8) hx hb d_M_cut_32 (by decide) ?_
  refine lv_iload hx hb d_M_cut_8 (lv_at hl 0 rfl) ?_
  refine lv_bipush (v := 8) hx hb d_M_cut_10 (by decide) ?_
  refine bn_ge (a1 := 3) (b1 := 8) (tgt := 35) hx hb (by omega) (by omega) d_M_cut_12 (by decide) (fun c_13 => ?_) (fun c_13 => ?_)
  · exact absurd c_13 (by decide)
  refine lv_aload_n hx hb d_M_cut_15 rfl (lv_at hl 1 rfl) ?_
  refine va_get (D := D) (ci := 1) (v := .ref qu) (C := R_M) (T := T_M) (N := 7) hx hb hts (ui_M _) hown hK hP 0 rfl rfl 3 (by decide) (hts _ (gwc gw_531)) (fun _ h9 => h9) rfl d_M_cut_16 ?_
  refine lv_iload hx hb d_M_cut_19 (lv_at hl 0 rfl) ?_
  refine lv_aload_n hx hb d_M_cut_21 rfl (lv_at hl 1 rfl) ?_
  refine va_get (D := D) (ci := 1) (v := .ref qb) (C := R_M) (T := T_M) (N := 7) hx hb hts (ui_M _) hown hK hP 0 rfl rfl 4 (by decide) (hts _ (gwc gw_532)) (fun _ h9 => h9) rfl d_M_cut_22 ?_
  refine lv_iload hx hb d_M_cut_25 (lv_at hl 0 rfl) ?_
  refine ld_l hx hb hK hP 2 2 rfl rfl 3 (by omega) (by omega) d_M_cut_27 ?_
  refine tp_l (mixL u1 u3 t) (rfl) ?_
  refine st_l hx hb hK hP hD hS 1 2 rfl rfl 3 (by omega) (by omega) d_M_cut_28 (fun H locs hP hD hS => ?_)
  have hP : va_P D cl [(hm, .inr (1, [.ref a, .ref b, .ref qa, .ref qu, .ref qb, .ref qh, .ref qm])), (qu, .inl (cJ, 8, .inr (.inl (f8 u0 u1 (mixL u0 u2 t) (mixL u1 u3 t) u4 u5 u6 u7)))), (qb, .inl (cJ, 8, .inr (.inl (f8 u0 u1 (mixL u0 u2 t) (mixL u1 u3 t) (mx2 u0 u2 u4 t) (mx2 u1 u3 u5 t) (mx3 u0 u2 u4 u6 t) (mx3 u1 u3 u5 u7 t))))), (qh, .inl (cJ, 8, .inr (.inl (f8 (mx3 u0 u2 u4 u6 t) (mx3 u1 u3 u5 u7 t) (mx2 u2 u4 u6 t) (mx2 u3 u5 u7 t) (mixL u4 u6 t) (mixL u5 u7 t) u6 u7)))), (qm, .inl (cJ, 8, .inr (.inl (f8 g0'_2 g1'_3 g2'_4 g3'_5 g4'_6 g5'_7 g6'_8 g7'_9))))] H := by rw [← f8_3]; exact hP
  have hD : va_D A [(hm, .inr (1, [.ref a, .ref b, .ref qa, .ref qu, .ref qb, .ref qh, .ref qm])), (qu, .inl (cJ, 8, .inr (.inl (f8 u0 u1 (mixL u0 u2 t) (mixL u1 u3 t) u4 u5 u6 u7)))), (qb, .inl (cJ, 8, .inr (.inl (f8 u0 u1 (mixL u0 u2 t) (mixL u1 u3 t) (mx2 u0 u2 u4 t) (mx2 u1 u3 u5 t) (mx3 u0 u2 u4 u6 t) (mx3 u1 u3 u5 u7 t))))), (qh, .inl (cJ, 8, .inr (.inl (f8 (mx3 u0 u2 u4 u6 t) (mx3 u1 u3 u5 u7 t) (mx2 u2 u4 u6 t) (mx2 u3 u5 u7 t) (mixL u4 u6 t) (mixL u5 u7 t) u6 u7)))), (qm, .inl (cJ, 8, .inr (.inl (f8 g0'_2 g1'_3 g2'_4 g3'_5 g4'_6 g5'_7 g6'_8 g7'_9))))] := by rw [← f8_3]; exact hD
  refine lv_iinc (v := 4) (lv' := [(5, .int 4), (0, .ref hm), (1, .long z), (3, .long t)]) hx hb d_M_cut_29 hl (k := 0) rfl (by first | exact nI_add _ 1 | rfl | decide) (by decide) rfl (fun ls hl => ?_)
  refine lv_goto (tgt := 8) hx hb d_M_cut_32 (by decide) ?_
  refine lv_iload hx hb d_M_cut_8 (lv_at hl 0 rfl) ?_
  refine lv_bipush (v := 8) hx hb d_M_cut_10 (by decide) ?_
  refine bn_ge (a1 := 4) (b1 := 8) (tgt := 35) hx hb (by omega) (by omega) d_M_cut_12 (by decide) (fun c_14 => ?_) (fun c_14 => ?_)
  · exact absurd c_14 (by decide)
  refine lv_aload_n hx hb d_M_cut_15 rfl (lv_at hl 1 rfl) ?_
  refine va_get (D := D) (ci := 1) (v := .ref qu) (C := R_M) (T := T_M) (N := 7) hx hb hts (ui_M _) hown hK hP 0 rfl rfl 3 (by decide) (hts _ (gwc gw_531)) (fun _ h9 => h9) rfl d_M_cut_16 ?_
  refine lv_iload hx hb d_M_cut_19 (lv_at hl 0 rfl) ?_
  refine lv_aload_n hx hb d_M_cut_21 rfl (lv_at hl 1 rfl) ?_
  refine va_get (D := D) (ci := 1) (v := .ref qb) (C := R_M) (T := T_M) (N := 7) hx hb hts (ui_M _) hown hK hP 0 rfl rfl 4 (by decide) (hts _ (gwc gw_532)) (fun _ h9 => h9) rfl d_M_cut_22 ?_
  refine lv_iload hx hb d_M_cut_25 (lv_at hl 0 rfl) ?_
  refine ld_l hx hb hK hP 2 2 rfl rfl 4 (by omega) (by omega) d_M_cut_27 ?_
  refine tp_l (mx2 u0 u2 u4 t) (rfl) ?_
  refine st_l hx hb hK hP hD hS 1 2 rfl rfl 4 (by omega) (by omega) d_M_cut_28 (fun H locs hP hD hS => ?_)
  have hP : va_P D cl [(hm, .inr (1, [.ref a, .ref b, .ref qa, .ref qu, .ref qb, .ref qh, .ref qm])), (qu, .inl (cJ, 8, .inr (.inl (f8 u0 u1 (mixL u0 u2 t) (mixL u1 u3 t) (mx2 u0 u2 u4 t) u5 u6 u7)))), (qb, .inl (cJ, 8, .inr (.inl (f8 u0 u1 (mixL u0 u2 t) (mixL u1 u3 t) (mx2 u0 u2 u4 t) (mx2 u1 u3 u5 t) (mx3 u0 u2 u4 u6 t) (mx3 u1 u3 u5 u7 t))))), (qh, .inl (cJ, 8, .inr (.inl (f8 (mx3 u0 u2 u4 u6 t) (mx3 u1 u3 u5 u7 t) (mx2 u2 u4 u6 t) (mx2 u3 u5 u7 t) (mixL u4 u6 t) (mixL u5 u7 t) u6 u7)))), (qm, .inl (cJ, 8, .inr (.inl (f8 g0'_2 g1'_3 g2'_4 g3'_5 g4'_6 g5'_7 g6'_8 g7'_9))))] H := by rw [← f8_4]; exact hP
  have hD : va_D A [(hm, .inr (1, [.ref a, .ref b, .ref qa, .ref qu, .ref qb, .ref qh, .ref qm])), (qu, .inl (cJ, 8, .inr (.inl (f8 u0 u1 (mixL u0 u2 t) (mixL u1 u3 t) (mx2 u0 u2 u4 t) u5 u6 u7)))), (qb, .inl (cJ, 8, .inr (.inl (f8 u0 u1 (mixL u0 u2 t) (mixL u1 u3 t) (mx2 u0 u2 u4 t) (mx2 u1 u3 u5 t) (mx3 u0 u2 u4 u6 t) (mx3 u1 u3 u5 u7 t))))), (qh, .inl (cJ, 8, .inr (.inl (f8 (mx3 u0 u2 u4 u6 t) (mx3 u1 u3 u5 u7 t) (mx2 u2 u4 u6 t) (mx2 u3 u5 u7 t) (mixL u4 u6 t) (mixL u5 u7 t) u6 u7)))), (qm, .inl (cJ, 8, .inr (.inl (f8 g0'_2 g1'_3 g2'_4 g3'_5 g4'_6 g5'_7 g6'_8 g7'_9))))] := by rw [← f8_4]; exact hD
  refine lv_iinc (v := 5) (lv' := [(5, .int 5), (0, .ref hm), (1, .long z), (3, .long t)]) hx hb d_M_cut_29 hl (k := 0) rfl (by first | exact nI_add _ 1 | rfl | decide) (by decide) rfl (fun ls hl => ?_)
  refine lv_goto (tgt := 8) hx hb d_M_cut_32 (by decide) ?_
  refine lv_iload hx hb d_M_cut_8 (lv_at hl 0 rfl) ?_
  refine lv_bipush (v := 8) hx hb d_M_cut_10 (by decide) ?_
  refine bn_ge (a1 := 5) (b1 := 8) (tgt := 35) hx hb (by omega) (by omega) d_M_cut_12 (by decide) (fun c_15 => ?_) (fun c_15 => ?_)
  · exact absurd c_15 (by decide)
  refine lv_aload_n hx hb d_M_cut_15 rfl (lv_at hl 1 rfl) ?_
  refine va_get (D := D) (ci := 1) (v := .ref qu) (C := R_M) (T := T_M) (N := 7) hx hb hts (ui_M _) hown hK hP 0 rfl rfl 3 (by decide) (hts _ (gwc gw_531)) (fun _ h9 => h9) rfl d_M_cut_16 ?_
  refine lv_iload hx hb d_M_cut_19 (lv_at hl 0 rfl) ?_
  refine lv_aload_n hx hb d_M_cut_21 rfl (lv_at hl 1 rfl) ?_
  refine va_get (D := D) (ci := 1) (v := .ref qb) (C := R_M) (T := T_M) (N := 7) hx hb hts (ui_M _) hown hK hP 0 rfl rfl 4 (by decide) (hts _ (gwc gw_532)) (fun _ h9 => h9) rfl d_M_cut_22 ?_
  refine lv_iload hx hb d_M_cut_25 (lv_at hl 0 rfl) ?_
  refine ld_l hx hb hK hP 2 2 rfl rfl 5 (by omega) (by omega) d_M_cut_27 ?_
  refine tp_l (mx2 u1 u3 u5 t) (rfl) ?_
  refine st_l hx hb hK hP hD hS 1 2 rfl rfl 5 (by omega) (by omega) d_M_cut_28 (fun H locs hP hD hS => ?_)
  have hP : va_P D cl [(hm, .inr (1, [.ref a, .ref b, .ref qa, .ref qu, .ref qb, .ref qh, .ref qm])), (qu, .inl (cJ, 8, .inr (.inl (f8 u0 u1 (mixL u0 u2 t) (mixL u1 u3 t) (mx2 u0 u2 u4 t) (mx2 u1 u3 u5 t) u6 u7)))), (qb, .inl (cJ, 8, .inr (.inl (f8 u0 u1 (mixL u0 u2 t) (mixL u1 u3 t) (mx2 u0 u2 u4 t) (mx2 u1 u3 u5 t) (mx3 u0 u2 u4 u6 t) (mx3 u1 u3 u5 u7 t))))), (qh, .inl (cJ, 8, .inr (.inl (f8 (mx3 u0 u2 u4 u6 t) (mx3 u1 u3 u5 u7 t) (mx2 u2 u4 u6 t) (mx2 u3 u5 u7 t) (mixL u4 u6 t) (mixL u5 u7 t) u6 u7)))), (qm, .inl (cJ, 8, .inr (.inl (f8 g0'_2 g1'_3 g2'_4 g3'_5 g4'_6 g5'_7 g6'_8 g7'_9))))] H := by rw [← f8_5]; exact hP
  have hD : va_D A [(hm, .inr (1, [.ref a, .ref b, .ref qa, .ref qu, .ref qb, .ref qh, .ref qm])), (qu, .inl (cJ, 8, .inr (.inl (f8 u0 u1 (mixL u0 u2 t) (mixL u1 u3 t) (mx2 u0 u2 u4 t) (mx2 u1 u3 u5 t) u6 u7)))), (qb, .inl (cJ, 8, .inr (.inl (f8 u0 u1 (mixL u0 u2 t) (mixL u1 u3 t) (mx2 u0 u2 u4 t) (mx2 u1 u3 u5 t) (mx3 u0 u2 u4 u6 t) (mx3 u1 u3 u5 u7 t))))), (qh, .inl (cJ, 8, .inr (.inl (f8 (mx3 u0 u2 u4 u6 t) (mx3 u1 u3 u5 u7 t) (mx2 u2 u4 u6 t) (mx2 u3 u5 u7 t) (mixL u4 u6 t) (mixL u5 u7 t) u6 u7)))), (qm, .inl (cJ, 8, .inr (.inl (f8 g0'_2 g1'_3 g2'_4 g3'_5 g4'_6 g5'_7 g6'_8 g7'_9))))] := by rw [← f8_5]; exact hD
  refine lv_iinc (v := 6) (lv' := [(5, .int 6), (0, .ref hm), (1, .long z), (3, .long t)]) hx hb d_M_cut_29 hl (k := 0) rfl (by first | exact nI_add _ 1 | rfl | decide) (by decide) rfl (fun ls hl => ?_)
  refine lv_goto (tgt := 8) hx hb d_M_cut_32 (by decide) ?_
  refine lv_iload hx hb d_M_cut_8 (lv_at hl 0 rfl) ?_
  refine lv_bipush (v := 8) hx hb d_M_cut_10 (by decide) ?_
  refine bn_ge (a1 := 6) (b1 := 8) (tgt := 35) hx hb (by omega) (by omega) d_M_cut_12 (by decide) (fun c_16 => ?_) (fun c_16 => ?_)
  · exact absurd c_16 (by decide)
  refine lv_aload_n hx hb d_M_cut_15 rfl (lv_at hl 1 rfl) ?_
  refine va_get (D := D) (ci := 1) (v := .ref qu) (C := R_M) (T := T_M) (N := 7) hx hb hts (ui_M _) hown hK hP 0 rfl rfl 3 (by decide) (hts _ (gwc gw_531)) (fun _ h9 => h9) rfl d_M_cut_16 ?_
  refine lv_iload hx hb d_M_cut_19 (lv_at hl 0 rfl) ?_
  refine lv_aload_n hx hb d_M_cut_21 rfl (lv_at hl 1 rfl) ?_
  refine va_get (D := D) (ci := 1) (v := .ref qb) (C := R_M) (T := T_M) (N := 7) hx hb hts (ui_M _) hown hK hP 0 rfl rfl 4 (by decide) (hts _ (gwc gw_532)) (fun _ h9 => h9) rfl d_M_cut_22 ?_
  refine lv_iload hx hb d_M_cut_25 (lv_at hl 0 rfl) ?_
  refine ld_l hx hb hK hP 2 2 rfl rfl 6 (by omega) (by omega) d_M_cut_27 ?_
  refine tp_l (mx3 u0 u2 u4 u6 t) (rfl) ?_
  refine st_l hx hb hK hP hD hS 1 2 rfl rfl 6 (by omega) (by omega) d_M_cut_28 (fun H locs hP hD hS => ?_)
  have hP : va_P D cl [(hm, .inr (1, [.ref a, .ref b, .ref qa, .ref qu, .ref qb, .ref qh, .ref qm])), (qu, .inl (cJ, 8, .inr (.inl (f8 u0 u1 (mixL u0 u2 t) (mixL u1 u3 t) (mx2 u0 u2 u4 t) (mx2 u1 u3 u5 t) (mx3 u0 u2 u4 u6 t) u7)))), (qb, .inl (cJ, 8, .inr (.inl (f8 u0 u1 (mixL u0 u2 t) (mixL u1 u3 t) (mx2 u0 u2 u4 t) (mx2 u1 u3 u5 t) (mx3 u0 u2 u4 u6 t) (mx3 u1 u3 u5 u7 t))))), (qh, .inl (cJ, 8, .inr (.inl (f8 (mx3 u0 u2 u4 u6 t) (mx3 u1 u3 u5 u7 t) (mx2 u2 u4 u6 t) (mx2 u3 u5 u7 t) (mixL u4 u6 t) (mixL u5 u7 t) u6 u7)))), (qm, .inl (cJ, 8, .inr (.inl (f8 g0'_2 g1'_3 g2'_4 g3'_5 g4'_6 g5'_7 g6'_8 g7'_9))))] H := by rw [← f8_6]; exact hP
  have hD : va_D A [(hm, .inr (1, [.ref a, .ref b, .ref qa, .ref qu, .ref qb, .ref qh, .ref qm])), (qu, .inl (cJ, 8, .inr (.inl (f8 u0 u1 (mixL u0 u2 t) (mixL u1 u3 t) (mx2 u0 u2 u4 t) (mx2 u1 u3 u5 t) (mx3 u0 u2 u4 u6 t) u7)))), (qb, .inl (cJ, 8, .inr (.inl (f8 u0 u1 (mixL u0 u2 t) (mixL u1 u3 t) (mx2 u0 u2 u4 t) (mx2 u1 u3 u5 t) (mx3 u0 u2 u4 u6 t) (mx3 u1 u3 u5 u7 t))))), (qh, .inl (cJ, 8, .inr (.inl (f8 (mx3 u0 u2 u4 u6 t) (mx3 u1 u3 u5 u7 t) (mx2 u2 u4 u6 t) (mx2 u3 u5 u7 t) (mixL u4 u6 t) (mixL u5 u7 t) u6 u7)))), (qm, .inl (cJ, 8, .inr (.inl (f8 g0'_2 g1'_3 g2'_4 g3'_5 g4'_6 g5'_7 g6'_8 g7'_9))))] := by rw [← f8_6]; exact hD
  refine lv_iinc (v := 7) (lv' := [(5, .int 7), (0, .ref hm), (1, .long z), (3, .long t)]) hx hb d_M_cut_29 hl (k := 0) rfl (by first | exact nI_add _ 1 | rfl | decide) (by decide) rfl (fun ls hl => ?_)
  refine lv_goto (tgt := 8) hx hb d_M_cut_32 (by decide) ?_
  refine lv_iload hx hb d_M_cut_8 (lv_at hl 0 rfl) ?_
  refine lv_bipush (v := 8) hx hb d_M_cut_10 (by decide) ?_
  refine bn_ge (a1 := 7) (b1 := 8) (tgt := 35) hx hb (by omega) (by omega) d_M_cut_12 (by decide) (fun c_17 => ?_) (fun c_17 => ?_)
  · exact absurd c_17 (by decide)
  refine lv_aload_n hx hb d_M_cut_15 rfl (lv_at hl 1 rfl) ?_
  refine va_get (D := D) (ci := 1) (v := .ref qu) (C := R_M) (T := T_M) (N := 7) hx hb hts (ui_M _) hown hK hP 0 rfl rfl 3 (by decide) (hts _ (gwc gw_531)) (fun _ h9 => h9) rfl d_M_cut_16 ?_
  refine lv_iload hx hb d_M_cut_19 (lv_at hl 0 rfl) ?_
  refine lv_aload_n hx hb d_M_cut_21 rfl (lv_at hl 1 rfl) ?_
  refine va_get (D := D) (ci := 1) (v := .ref qb) (C := R_M) (T := T_M) (N := 7) hx hb hts (ui_M _) hown hK hP 0 rfl rfl 4 (by decide) (hts _ (gwc gw_532)) (fun _ h9 => h9) rfl d_M_cut_22 ?_
  refine lv_iload hx hb d_M_cut_25 (lv_at hl 0 rfl) ?_
  refine ld_l hx hb hK hP 2 2 rfl rfl 7 (by omega) (by omega) d_M_cut_27 ?_
  refine tp_l (mx3 u1 u3 u5 u7 t) (rfl) ?_
  refine st_l hx hb hK hP hD hS 1 2 rfl rfl 7 (by omega) (by omega) d_M_cut_28 (fun H locs hP hD hS => ?_)
  have hP : va_P D cl [(hm, .inr (1, [.ref a, .ref b, .ref qa, .ref qu, .ref qb, .ref qh, .ref qm])), (qu, .inl (cJ, 8, .inr (.inl (f8 u0 u1 (mixL u0 u2 t) (mixL u1 u3 t) (mx2 u0 u2 u4 t) (mx2 u1 u3 u5 t) (mx3 u0 u2 u4 u6 t) (mx3 u1 u3 u5 u7 t))))), (qb, .inl (cJ, 8, .inr (.inl (f8 u0 u1 (mixL u0 u2 t) (mixL u1 u3 t) (mx2 u0 u2 u4 t) (mx2 u1 u3 u5 t) (mx3 u0 u2 u4 u6 t) (mx3 u1 u3 u5 u7 t))))), (qh, .inl (cJ, 8, .inr (.inl (f8 (mx3 u0 u2 u4 u6 t) (mx3 u1 u3 u5 u7 t) (mx2 u2 u4 u6 t) (mx2 u3 u5 u7 t) (mixL u4 u6 t) (mixL u5 u7 t) u6 u7)))), (qm, .inl (cJ, 8, .inr (.inl (f8 g0'_2 g1'_3 g2'_4 g3'_5 g4'_6 g5'_7 g6'_8 g7'_9))))] H := by rw [← f8_7]; exact hP
  have hD : va_D A [(hm, .inr (1, [.ref a, .ref b, .ref qa, .ref qu, .ref qb, .ref qh, .ref qm])), (qu, .inl (cJ, 8, .inr (.inl (f8 u0 u1 (mixL u0 u2 t) (mixL u1 u3 t) (mx2 u0 u2 u4 t) (mx2 u1 u3 u5 t) (mx3 u0 u2 u4 u6 t) (mx3 u1 u3 u5 u7 t))))), (qb, .inl (cJ, 8, .inr (.inl (f8 u0 u1 (mixL u0 u2 t) (mixL u1 u3 t) (mx2 u0 u2 u4 t) (mx2 u1 u3 u5 t) (mx3 u0 u2 u4 u6 t) (mx3 u1 u3 u5 u7 t))))), (qh, .inl (cJ, 8, .inr (.inl (f8 (mx3 u0 u2 u4 u6 t) (mx3 u1 u3 u5 u7 t) (mx2 u2 u4 u6 t) (mx2 u3 u5 u7 t) (mixL u4 u6 t) (mixL u5 u7 t) u6 u7)))), (qm, .inl (cJ, 8, .inr (.inl (f8 g0'_2 g1'_3 g2'_4 g3'_5 g4'_6 g5'_7 g6'_8 g7'_9))))] := by rw [← f8_7]; exact hD
  refine lv_iinc (v := 8) (lv' := [(5, .int 8), (0, .ref hm), (1, .long z), (3, .long t)]) hx hb d_M_cut_29 hl (k := 0) rfl (by first | exact nI_add _ 1 | rfl | decide) (by decide) rfl (fun ls hl => ?_)
  refine lv_goto (tgt := 8) hx hb d_M_cut_32 (by decide) ?_
  refine lv_iload hx hb d_M_cut_8 (lv_at hl 0 rfl) ?_
  refine lv_bipush (v := 8) hx hb d_M_cut_10 (by decide) ?_
  refine bn_ge (a1 := 8) (b1 := 8) (tgt := 35) hx hb (by omega) (by omega) d_M_cut_12 (by decide) (fun c_18 => ?_) (fun c_18 => ?_)
  rotate_left
  · exact absurd c_18 (by decide)
  refine lv_lload_n hx hb d_M_cut_35 rfl (lv_at hl 2 rfl) ?_
  refine lv_lconst (v := 0) hx hb d_M_cut_36 (by decide) ?_
  refine W.lcmp hx hb d_M_cut_37 ?_
  refine lc_ne (tgt := 42) hx hb d_M_cut_38 (by decide) (fun c_19 => ?_) (fun c_19 => ?_)
  · skip
    refine lv_aload_n hx hb d_M_cut_42 rfl (lv_at hl 1 rfl) ?_
    refine lv_ldc2 (v := 2) hx hb hown (hts _ (gwc gw_673)) d_M_cut_43 ?_
    refine lv_lload_n hx hb d_M_cut_46 rfl (lv_at hl 2 rfl) ?_
    refine lv_lmul hx hb d_M_cut_47 ?_
    refine lv_ldc2 (v := 65536) hx hb hown (hts _ (gwc gw_654)) d_M_cut_48 ?_
    refine lv_lmul hx hb d_M_cut_51 ?_
    refine lv_lload_n hx hb d_M_cut_52 rfl (lv_at hl 3 rfl) ?_
    refine lv_ladd hx hb d_M_cut_53 ?_
    refine lv_ldc2 (v := 2) hx hb hown (hts _ (gwc gw_673)) d_M_cut_54 ?_
    refine lv_lload_n hx hb d_M_cut_57 rfl (lv_at hl 3 rfl) ?_
    refine lv_lmul hx hb d_M_cut_58 ?_
    refine ct_callS (av := [.long (((2 * z) * 65536) + t), .long (2 * t)]) (rest := [.ref hm]) (wr := [(hm, .inr (1, [.ref a, .ref b, .ref qa, .ref qu, .ref qb, .ref qh, .ref qm])), (qu, .inl (cJ, 8, .inr (.inl (f8 u0 u1 (mixL u0 u2 t) (mixL u1 u3 t) (mx2 u0 u2 u4 t) (mx2 u1 u3 u5 t) (mx3 u0 u2 u4 u6 t) (mx3 u1 u3 u5 u7 t))))), (qb, .inl (cJ, 8, .inr (.inl (f8 u0 u1 (mixL u0 u2 t) (mixL u1 u3 t) (mx2 u0 u2 u4 t) (mx2 u1 u3 u5 t) (mx3 u0 u2 u4 u6 t) (mx3 u1 u3 u5 u7 t))))), (qh, .inl (cJ, 8, .inr (.inl (f8 (mx3 u0 u2 u4 u6 t) (mx3 u1 u3 u5 u7 t) (mx2 u2 u4 u6 t) (mx2 u3 u5 u7 t) (mixL u4 u6 t) (mixL u5 u7 t) u6 u7)))), (qm, .inl (cJ, 8, .inr (.inl (f8 g0'_2 g1'_3 g2'_4 g3'_5 g4'_6 g5'_7 g6'_8 g7'_9))))]) (n := 2) (c_floorDiv l D cI cB cJ qQ (((2 * z) * 65536) + t) (2 * t) (ht)) hx hb hml hown hts (amb_ok qQ) hK hP hD hS hA hM (gi_S gw_635 gw_290 gw_35 gw_291) rfl (by decide +kernel) ⟨by omega, by omega⟩ [] [0, 1, 2, 3, 4] rfl rfl rfl rfl (by decide) rfl hl.1 rfl (Nat.le_of_ble_eq_true rfl) d_M_cut_59 ⟨by omega, by omega⟩ (fun u_20 H locs hok hP hD hS => ?_)
    have hP : va_P D cl [(hm, .inr (1, [.ref a, .ref b, .ref qa, .ref qu, .ref qb, .ref qh, .ref qm])), (qu, .inl (cJ, 8, .inr (.inl (f8 u0 u1 (mixL u0 u2 t) (mixL u1 u3 t) (mx2 u0 u2 u4 t) (mx2 u1 u3 u5 t) (mx3 u0 u2 u4 u6 t) (mx3 u1 u3 u5 u7 t))))), (qb, .inl (cJ, 8, .inr (.inl (f8 u0 u1 (mixL u0 u2 t) (mixL u1 u3 t) (mx2 u0 u2 u4 t) (mx2 u1 u3 u5 t) (mx3 u0 u2 u4 u6 t) (mx3 u1 u3 u5 u7 t))))), (qh, .inl (cJ, 8, .inr (.inl (f8 (mx3 u0 u2 u4 u6 t) (mx3 u1 u3 u5 u7 t) (mx2 u2 u4 u6 t) (mx2 u3 u5 u7 t) (mixL u4 u6 t) (mixL u5 u7 t) u6 u7)))), (qm, .inl (cJ, 8, .inr (.inl (f8 g0'_2 g1'_3 g2'_4 g3'_5 g4'_6 g5'_7 g6'_8 g7'_9))))] H := hP
    have hD : va_D A [(hm, .inr (1, [.ref a, .ref b, .ref qa, .ref qu, .ref qb, .ref qh, .ref qm])), (qu, .inl (cJ, 8, .inr (.inl (f8 u0 u1 (mixL u0 u2 t) (mixL u1 u3 t) (mx2 u0 u2 u4 t) (mx2 u1 u3 u5 t) (mx3 u0 u2 u4 u6 t) (mx3 u1 u3 u5 u7 t))))), (qb, .inl (cJ, 8, .inr (.inl (f8 u0 u1 (mixL u0 u2 t) (mixL u1 u3 t) (mx2 u0 u2 u4 t) (mx2 u1 u3 u5 t) (mx3 u0 u2 u4 u6 t) (mx3 u1 u3 u5 u7 t))))), (qh, .inl (cJ, 8, .inr (.inl (f8 (mx3 u0 u2 u4 u6 t) (mx3 u1 u3 u5 u7 t) (mx2 u2 u4 u6 t) (mx2 u3 u5 u7 t) (mixL u4 u6 t) (mixL u5 u7 t) u6 u7)))), (qm, .inl (cJ, 8, .inr (.inl (f8 g0'_2 g1'_3 g2'_4 g3'_5 g4'_6 g5'_7 g6'_8 g7'_9))))] := hD
    refine W.eq (g2 := F0 m 62 ls [.long (fdv (((2 * z) * 65536) + t) (2 * t)), .ref hm]) rfl ?_
    refine ct_callV (ci := 1) (q0 := 0) (As := [.long (fdv (((2 * z) * 65536) + t) (2 * t))]) (rest := []) (wr := []) (n := 1) (c_M_part l D cI cB cJ qQ hm a b qa qu qb qh qm u0 u1 (mixL u0 u2 t) (mixL u1 u3 t) (mx2 u0 u2 u4 t) (mx2 u1 u3 u5 t) (mx3 u0 u2 u4 u6 t) (mx3 u1 u3 u5 u7 t) u0 u1 (mixL u0 u2 t) (mixL u1 u3 t) (mx2 u0 u2 u4 t) (mx2 u1 u3 u5 t) (mx3 u0 u2 u4 u6 t) (mx3 u1 u3 u5 u7 t) (mx3 u0 u2 u4 u6 t) (mx3 u1 u3 u5 u7 t) (mx2 u2 u4 u6 t) (mx2 u3 u5 u7 t) (mixL u4 u6 t) (mixL u5 u7 t) u6 u7 g0'_2 g1'_3 g2'_4 g3'_5 g4'_6 g5'_7 g6'_8 g7'_9 (fdv (((2 * z) * 65536) + t) (2 * t)) ) hx hb hml hown hts (amb_ok qQ) hK hP hD hS hA hM (gi_V gw_665 gw_667 gw_22 gw_33 gw_668) rfl (by decide +kernel) ⟨by omega, by omega⟩ [0, 1, 2, 3, 4] [] rfl rfl rfl rfl (by decide) rfl rfl rfl hl.1 rfl (Nat.le_of_ble_eq_true rfl) d_M_cut_62 ⟨by omega, by omega⟩ (fun u_21 H locs hok hP hD hS => ?_)
    obtain ⟨g0'_22, g1'_23, g2'_24, g3'_25, g4'_26, g5'_27, g6'_28, g7'_29⟩ := u_21
    have hP : va_P D cl [(hm, .inr (1, [.ref a, .ref b, .ref qa, .ref qu, .ref qb, .ref qh, .ref qm])), (qu, .inl (cJ, 8, .inr (.inl (f8 u0 u1 (mixL u0 u2 t) (mixL u1 u3 t) (mx2 u0 u2 u4 t) (mx2 u1 u3 u5 t) (mx3 u0 u2 u4 u6 t) (mx3 u1 u3 u5 u7 t))))), (qb, .inl (cJ, 8, .inr (.inl (f8 u0 u1 (mixL u0 (mixL u0 u2 t) (fdv (((2 * z) * 65536) + t) (2 * t))) (mixL u1 (mixL u1 u3 t) (fdv (((2 * z) * 65536) + t) (2 * t))) (mx2 u0 (mixL u0 u2 t) (mx2 u0 u2 u4 t) (fdv (((2 * z) * 65536) + t) (2 * t))) (mx2 u1 (mixL u1 u3 t) (mx2 u1 u3 u5 t) (fdv (((2 * z) * 65536) + t) (2 * t))) (mx3 u0 (mixL u0 u2 t) (mx2 u0 u2 u4 t) (mx3 u0 u2 u4 u6 t) (fdv (((2 * z) * 65536) + t) (2 * t))) (mx3 u1 (mixL u1 u3 t) (mx2 u1 u3 u5 t) (mx3 u1 u3 u5 u7 t) (fdv (((2 * z) * 65536) + t) (2 * t))))))), (qh, .inl (cJ, 8, .inr (.inl (f8 (mx3 u0 (mixL u0 u2 t) (mx2 u0 u2 u4 t) (mx3 u0 u2 u4 u6 t) (fdv (((2 * z) * 65536) + t) (2 * t))) (mx3 u1 (mixL u1 u3 t) (mx2 u1 u3 u5 t) (mx3 u1 u3 u5 u7 t) (fdv (((2 * z) * 65536) + t) (2 * t))) (mx2 (mixL u0 u2 t) (mx2 u0 u2 u4 t) (mx3 u0 u2 u4 u6 t) (fdv (((2 * z) * 65536) + t) (2 * t))) (mx2 (mixL u1 u3 t) (mx2 u1 u3 u5 t) (mx3 u1 u3 u5 u7 t) (fdv (((2 * z) * 65536) + t) (2 * t))) (mixL (mx2 u0 u2 u4 t) (mx3 u0 u2 u4 u6 t) (fdv (((2 * z) * 65536) + t) (2 * t))) (mixL (mx2 u1 u3 u5 t) (mx3 u1 u3 u5 u7 t) (fdv (((2 * z) * 65536) + t) (2 * t))) (mx3 u0 u2 u4 u6 t) (mx3 u1 u3 u5 u7 t))))), (qm, .inl (cJ, 8, .inr (.inl (f8 g0'_22 g1'_23 g2'_24 g3'_25 g4'_26 g5'_27 g6'_28 g7'_29))))] H := hP
    have hD : va_D A [(hm, .inr (1, [.ref a, .ref b, .ref qa, .ref qu, .ref qb, .ref qh, .ref qm])), (qu, .inl (cJ, 8, .inr (.inl (f8 u0 u1 (mixL u0 u2 t) (mixL u1 u3 t) (mx2 u0 u2 u4 t) (mx2 u1 u3 u5 t) (mx3 u0 u2 u4 u6 t) (mx3 u1 u3 u5 u7 t))))), (qb, .inl (cJ, 8, .inr (.inl (f8 u0 u1 (mixL u0 (mixL u0 u2 t) (fdv (((2 * z) * 65536) + t) (2 * t))) (mixL u1 (mixL u1 u3 t) (fdv (((2 * z) * 65536) + t) (2 * t))) (mx2 u0 (mixL u0 u2 t) (mx2 u0 u2 u4 t) (fdv (((2 * z) * 65536) + t) (2 * t))) (mx2 u1 (mixL u1 u3 t) (mx2 u1 u3 u5 t) (fdv (((2 * z) * 65536) + t) (2 * t))) (mx3 u0 (mixL u0 u2 t) (mx2 u0 u2 u4 t) (mx3 u0 u2 u4 u6 t) (fdv (((2 * z) * 65536) + t) (2 * t))) (mx3 u1 (mixL u1 u3 t) (mx2 u1 u3 u5 t) (mx3 u1 u3 u5 u7 t) (fdv (((2 * z) * 65536) + t) (2 * t))))))), (qh, .inl (cJ, 8, .inr (.inl (f8 (mx3 u0 (mixL u0 u2 t) (mx2 u0 u2 u4 t) (mx3 u0 u2 u4 u6 t) (fdv (((2 * z) * 65536) + t) (2 * t))) (mx3 u1 (mixL u1 u3 t) (mx2 u1 u3 u5 t) (mx3 u1 u3 u5 u7 t) (fdv (((2 * z) * 65536) + t) (2 * t))) (mx2 (mixL u0 u2 t) (mx2 u0 u2 u4 t) (mx3 u0 u2 u4 u6 t) (fdv (((2 * z) * 65536) + t) (2 * t))) (mx2 (mixL u1 u3 t) (mx2 u1 u3 u5 t) (mx3 u1 u3 u5 u7 t) (fdv (((2 * z) * 65536) + t) (2 * t))) (mixL (mx2 u0 u2 u4 t) (mx3 u0 u2 u4 u6 t) (fdv (((2 * z) * 65536) + t) (2 * t))) (mixL (mx2 u1 u3 u5 t) (mx3 u1 u3 u5 u7 t) (fdv (((2 * z) * 65536) + t) (2 * t))) (mx3 u0 u2 u4 u6 t) (mx3 u1 u3 u5 u7 t))))), (qm, .inl (cJ, 8, .inr (.inl (f8 g0'_22 g1'_23 g2'_24 g3'_25 g4'_26 g5'_27 g6'_28 g7'_29))))] := hD
    refine W.eq (g2 := F0 m 65 ls []) rfl ?_
    refine lv_iconst (v := 0) hx hb d_M_cut_65 (by decide) ?_
    refine lv_istore (lv' := [(5, .int 0), (0, .ref hm), (1, .long z), (3, .long t)]) hx hb d_M_cut_66 hl (by decide) rfl (fun ls hl => ?_)
    refine lv_iload hx hb d_M_cut_68 (lv_at hl 0 rfl) ?_
    refine lv_bipush (v := 8) hx hb d_M_cut_70 (by decide) ?_
    refine bn_ge (a1 := 0) (b1 := 8) (tgt := 95) hx hb (by omega) (by omega) d_M_cut_72 (by decide) (fun c_30 => ?_) (fun c_30 => ?_)
    · exact absurd c_30 (by decide)
    refine lv_aload_n hx hb d_M_cut_75 rfl (lv_at hl 1 rfl) ?_
    refine va_get (D := D) (ci := 1) (v := .ref qu) (C := R_M) (T := T_M) (N := 7) hx hb hts (ui_M _) hown hK hP 0 rfl rfl 3 (by decide) (hts _ (gwc gw_531)) (fun _ h9 => h9) rfl d_M_cut_76 ?_
    refine lv_iload hx hb d_M_cut_79 (lv_at hl 0 rfl) ?_
    refine lv_aload_n hx hb d_M_cut_81 rfl (lv_at hl 1 rfl) ?_
    refine va_get (D := D) (ci := 1) (v := .ref qh) (C := R_M) (T := T_M) (N := 7) hx hb hts (ui_M _) hown hK hP 0 rfl rfl 5 (by decide) (hts _ (gwc gw_533)) (fun _ h9 => h9) rfl d_M_cut_82 ?_
    refine lv_iload hx hb d_M_cut_85 (lv_at hl 0 rfl) ?_
    refine ld_l hx hb hK hP 3 2 rfl rfl 0 (by omega) (by omega) d_M_cut_87 ?_
    refine tp_l (mx3 u0 (mixL u0 u2 t) (mx2 u0 u2 u4 t) (mx3 u0 u2 u4 u6 t) (fdv (((2 * z) * 65536) + t) (2 * t))) (rfl) ?_
    refine st_l hx hb hK hP hD hS 1 2 rfl rfl 0 (by omega) (by omega) d_M_cut_88 (fun H locs hP hD hS => ?_)
    have hP : va_P D cl [(hm, .inr (1, [.ref a, .ref b, .ref qa, .ref qu, .ref qb, .ref qh, .ref qm])), (qu, .inl (cJ, 8, .inr (.inl (f8 (mx3 u0 (mixL u0 u2 t) (mx2 u0 u2 u4 t) (mx3 u0 u2 u4 u6 t) (fdv (((2 * z) * 65536) + t) (2 * t))) u1 (mixL u0 u2 t) (mixL u1 u3 t) (mx2 u0 u2 u4 t) (mx2 u1 u3 u5 t) (mx3 u0 u2 u4 u6 t) (mx3 u1 u3 u5 u7 t))))), (qb, .inl (cJ, 8, .inr (.inl (f8 u0 u1 (mixL u0 (mixL u0 u2 t) (fdv (((2 * z) * 65536) + t) (2 * t))) (mixL u1 (mixL u1 u3 t) (fdv (((2 * z) * 65536) + t) (2 * t))) (mx2 u0 (mixL u0 u2 t) (mx2 u0 u2 u4 t) (fdv (((2 * z) * 65536) + t) (2 * t))) (mx2 u1 (mixL u1 u3 t) (mx2 u1 u3 u5 t) (fdv (((2 * z) * 65536) + t) (2 * t))) (mx3 u0 (mixL u0 u2 t) (mx2 u0 u2 u4 t) (mx3 u0 u2 u4 u6 t) (fdv (((2 * z) * 65536) + t) (2 * t))) (mx3 u1 (mixL u1 u3 t) (mx2 u1 u3 u5 t) (mx3 u1 u3 u5 u7 t) (fdv (((2 * z) * 65536) + t) (2 * t))))))), (qh, .inl (cJ, 8, .inr (.inl (f8 (mx3 u0 (mixL u0 u2 t) (mx2 u0 u2 u4 t) (mx3 u0 u2 u4 u6 t) (fdv (((2 * z) * 65536) + t) (2 * t))) (mx3 u1 (mixL u1 u3 t) (mx2 u1 u3 u5 t) (mx3 u1 u3 u5 u7 t) (fdv (((2 * z) * 65536) + t) (2 * t))) (mx2 (mixL u0 u2 t) (mx2 u0 u2 u4 t) (mx3 u0 u2 u4 u6 t) (fdv (((2 * z) * 65536) + t) (2 * t))) (mx2 (mixL u1 u3 t) (mx2 u1 u3 u5 t) (mx3 u1 u3 u5 u7 t) (fdv (((2 * z) * 65536) + t) (2 * t))) (mixL (mx2 u0 u2 u4 t) (mx3 u0 u2 u4 u6 t) (fdv (((2 * z) * 65536) + t) (2 * t))) (mixL (mx2 u1 u3 u5 t) (mx3 u1 u3 u5 u7 t) (fdv (((2 * z) * 65536) + t) (2 * t))) (mx3 u0 u2 u4 u6 t) (mx3 u1 u3 u5 u7 t))))), (qm, .inl (cJ, 8, .inr (.inl (f8 g0'_22 g1'_23 g2'_24 g3'_25 g4'_26 g5'_27 g6'_28 g7'_29))))] H := by rw [← f8_0]; exact hP
    have hD : va_D A [(hm, .inr (1, [.ref a, .ref b, .ref qa, .ref qu, .ref qb, .ref qh, .ref qm])), (qu, .inl (cJ, 8, .inr (.inl (f8 (mx3 u0 (mixL u0 u2 t) (mx2 u0 u2 u4 t) (mx3 u0 u2 u4 u6 t) (fdv (((2 * z) * 65536) + t) (2 * t))) u1 (mixL u0 u2 t) (mixL u1 u3 t) (mx2 u0 u2 u4 t) (mx2 u1 u3 u5 t) (mx3 u0 u2 u4 u6 t) (mx3 u1 u3 u5 u7 t))))), (qb, .inl (cJ, 8, .inr (.inl (f8 u0 u1 (mixL u0 (mixL u0 u2 t) (fdv (((2 * z) * 65536) + t) (2 * t))) (mixL u1 (mixL u1 u3 t) (fdv (((2 * z) * 65536) + t) (2 * t))) (mx2 u0 (mixL u0 u2 t) (mx2 u0 u2 u4 t) (fdv (((2 * z) * 65536) + t) (2 * t))) (mx2 u1 (mixL u1 u3 t) (mx2 u1 u3 u5 t) (fdv (((2 * z) * 65536) + t) (2 * t))) (mx3 u0 (mixL u0 u2 t) (mx2 u0 u2 u4 t) (mx3 u0 u2 u4 u6 t) (fdv (((2 * z) * 65536) + t) (2 * t))) (mx3 u1 (mixL u1 u3 t) (mx2 u1 u3 u5 t) (mx3 u1 u3 u5 u7 t) (fdv (((2 * z) * 65536) + t) (2 * t))))))), (qh, .inl (cJ, 8, .inr (.inl (f8 (mx3 u0 (mixL u0 u2 t) (mx2 u0 u2 u4 t) (mx3 u0 u2 u4 u6 t) (fdv (((2 * z) * 65536) + t) (2 * t))) (mx3 u1 (mixL u1 u3 t) (mx2 u1 u3 u5 t) (mx3 u1 u3 u5 u7 t) (fdv (((2 * z) * 65536) + t) (2 * t))) (mx2 (mixL u0 u2 t) (mx2 u0 u2 u4 t) (mx3 u0 u2 u4 u6 t) (fdv (((2 * z) * 65536) + t) (2 * t))) (mx2 (mixL u1 u3 t) (mx2 u1 u3 u5 t) (mx3 u1 u3 u5 u7 t) (fdv (((2 * z) * 65536) + t) (2 * t))) (mixL (mx2 u0 u2 u4 t) (mx3 u0 u2 u4 u6 t) (fdv (((2 * z) * 65536) + t) (2 * t))) (mixL (mx2 u1 u3 u5 t) (mx3 u1 u3 u5 u7 t) (fdv (((2 * z) * 65536) + t) (2 * t))) (mx3 u0 u2 u4 u6 t) (mx3 u1 u3 u5 u7 t))))), (qm, .inl (cJ, 8, .inr (.inl (f8 g0'_22 g1'_23 g2'_24 g3'_25 g4'_26 g5'_27 g6'_28 g7'_29))))] := by rw [← f8_0]; exact hD
    refine lv_iinc (v := 1) (lv' := [(5, .int 1), (0, .ref hm), (1, .long z), (3, .long t)]) hx hb d_M_cut_89 hl (k := 0) rfl (by first | exact nI_add _ 1 | rfl | decide) (by decide) rfl (fun ls hl => ?_)
    refine lv_goto (tgt := 68) hx hb d_M_cut_92 (by decide) ?_
    refine lv_iload hx hb d_M_cut_68 (lv_at hl 0 rfl) ?_
    refine lv_bipush (v := 8) hx hb d_M_cut_70 (by decide) ?_
    refine bn_ge (a1 := 1) (b1 := 8) (tgt := 95) hx hb (by omega) (by omega) d_M_cut_72 (by decide) (fun c_31 => ?_) (fun c_31 => ?_)
    · exact absurd c_31 (by decide)
    refine lv_aload_n hx hb d_M_cut_75 rfl (lv_at hl 1 rfl) ?_
    refine va_get (D := D) (ci := 1) (v := .ref qu) (C := R_M) (T := T_M) (N := 7) hx hb hts (ui_M _) hown hK hP 0 rfl rfl 3 (by decide) (hts _ (gwc gw_531)) (fun _ h9 => h9) rfl d_M_cut_76 ?_
    refine lv_iload hx hb d_M_cut_79 (lv_at hl 0 rfl) ?_
    refine lv_aload_n hx hb d_M_cut_81 rfl (lv_at hl 1 rfl) ?_
    refine va_get (D := D) (ci := 1) (v := .ref qh) (C := R_M) (T := T_M) (N := 7) hx hb hts (ui_M _) hown hK hP 0 rfl rfl 5 (by decide) (hts _ (gwc gw_533)) (fun _ h9 => h9) rfl d_M_cut_82 ?_
    refine lv_iload hx hb d_M_cut_85 (lv_at hl 0 rfl) ?_
    refine ld_l hx hb hK hP 3 2 rfl rfl 1 (by omega) (by omega) d_M_cut_87 ?_
    refine tp_l (mx3 u1 (mixL u1 u3 t) (mx2 u1 u3 u5 t) (mx3 u1 u3 u5 u7 t) (fdv (((2 * z) * 65536) + t) (2 * t))) (rfl) ?_
    refine st_l hx hb hK hP hD hS 1 2 rfl rfl 1 (by omega) (by omega) d_M_cut_88 (fun H locs hP hD hS => ?_)
    have hP : va_P D cl [(hm, .inr (1, [.ref a, .ref b, .ref qa, .ref qu, .ref qb, .ref qh, .ref qm])), (qu, .inl (cJ, 8, .inr (.inl (f8 (mx3 u0 (mixL u0 u2 t) (mx2 u0 u2 u4 t) (mx3 u0 u2 u4 u6 t) (fdv (((2 * z) * 65536) + t) (2 * t))) (mx3 u1 (mixL u1 u3 t) (mx2 u1 u3 u5 t) (mx3 u1 u3 u5 u7 t) (fdv (((2 * z) * 65536) + t) (2 * t))) (mixL u0 u2 t) (mixL u1 u3 t) (mx2 u0 u2 u4 t) (mx2 u1 u3 u5 t) (mx3 u0 u2 u4 u6 t) (mx3 u1 u3 u5 u7 t))))), (qb, .inl (cJ, 8, .inr (.inl (f8 u0 u1 (mixL u0 (mixL u0 u2 t) (fdv (((2 * z) * 65536) + t) (2 * t))) (mixL u1 (mixL u1 u3 t) (fdv (((2 * z) * 65536) + t) (2 * t))) (mx2 u0 (mixL u0 u2 t) (mx2 u0 u2 u4 t) (fdv (((2 * z) * 65536) + t) (2 * t))) (mx2 u1 (mixL u1 u3 t) (mx2 u1 u3 u5 t) (fdv (((2 * z) * 65536) + t) (2 * t))) (mx3 u0 (mixL u0 u2 t) (mx2 u0 u2 u4 t) (mx3 u0 u2 u4 u6 t) (fdv (((2 * z) * 65536) + t) (2 * t))) (mx3 u1 (mixL u1 u3 t) (mx2 u1 u3 u5 t) (mx3 u1 u3 u5 u7 t) (fdv (((2 * z) * 65536) + t) (2 * t))))))), (qh, .inl (cJ, 8, .inr (.inl (f8 (mx3 u0 (mixL u0 u2 t) (mx2 u0 u2 u4 t) (mx3 u0 u2 u4 u6 t) (fdv (((2 * z) * 65536) + t) (2 * t))) (mx3 u1 (mixL u1 u3 t) (mx2 u1 u3 u5 t) (mx3 u1 u3 u5 u7 t) (fdv (((2 * z) * 65536) + t) (2 * t))) (mx2 (mixL u0 u2 t) (mx2 u0 u2 u4 t) (mx3 u0 u2 u4 u6 t) (fdv (((2 * z) * 65536) + t) (2 * t))) (mx2 (mixL u1 u3 t) (mx2 u1 u3 u5 t) (mx3 u1 u3 u5 u7 t) (fdv (((2 * z) * 65536) + t) (2 * t))) (mixL (mx2 u0 u2 u4 t) (mx3 u0 u2 u4 u6 t) (fdv (((2 * z) * 65536) + t) (2 * t))) (mixL (mx2 u1 u3 u5 t) (mx3 u1 u3 u5 u7 t) (fdv (((2 * z) * 65536) + t) (2 * t))) (mx3 u0 u2 u4 u6 t) (mx3 u1 u3 u5 u7 t))))), (qm, .inl (cJ, 8, .inr (.inl (f8 g0'_22 g1'_23 g2'_24 g3'_25 g4'_26 g5'_27 g6'_28 g7'_29))))] H := by rw [← f8_1]; exact hP
    have hD : va_D A [(hm, .inr (1, [.ref a, .ref b, .ref qa, .ref qu, .ref qb, .ref qh, .ref qm])), (qu, .inl (cJ, 8, .inr (.inl (f8 (mx3 u0 (mixL u0 u2 t) (mx2 u0 u2 u4 t) (mx3 u0 u2 u4 u6 t) (fdv (((2 * z) * 65536) + t) (2 * t))) (mx3 u1 (mixL u1 u3 t) (mx2 u1 u3 u5 t) (mx3 u1 u3 u5 u7 t) (fdv (((2 * z) * 65536) + t) (2 * t))) (mixL u0 u2 t) (mixL u1 u3 t) (mx2 u0 u2 u4 t) (mx2 u1 u3 u5 t) (mx3 u0 u2 u4 u6 t) (mx3 u1 u3 u5 u7 t))))), (qb, .inl (cJ, 8, .inr (.inl (f8 u0 u1 (mixL u0 (mixL u0 u2 t) (fdv (((2 * z) * 65536) + t) (2 * t))) (mixL u1 (mixL u1 u3 t) (fdv (((2 * z) * 65536) + t) (2 * t))) (mx2 u0 (mixL u0 u2 t) (mx2 u0 u2 u4 t) (fdv (((2 * z) * 65536) + t) (2 * t))) (mx2 u1 (mixL u1 u3 t) (mx2 u1 u3 u5 t) (fdv (((2 * z) * 65536) + t) (2 * t))) (mx3 u0 (mixL u0 u2 t) (mx2 u0 u2 u4 t) (mx3 u0 u2 u4 u6 t) (fdv (((2 * z) * 65536) + t) (2 * t))) (mx3 u1 (mixL u1 u3 t) (mx2 u1 u3 u5 t) (mx3 u1 u3 u5 u7 t) (fdv (((2 * z) * 65536) + t) (2 * t))))))), (qh, .inl (cJ, 8, .inr (.inl (f8 (mx3 u0 (mixL u0 u2 t) (mx2 u0 u2 u4 t) (mx3 u0 u2 u4 u6 t) (fdv (((2 * z) * 65536) + t) (2 * t))) (mx3 u1 (mixL u1 u3 t) (mx2 u1 u3 u5 t) (mx3 u1 u3 u5 u7 t) (fdv (((2 * z) * 65536) + t) (2 * t))) (mx2 (mixL u0 u2 t) (mx2 u0 u2 u4 t) (mx3 u0 u2 u4 u6 t) (fdv (((2 * z) * 65536) + t) (2 * t))) (mx2 (mixL u1 u3 t) (mx2 u1 u3 u5 t) (mx3 u1 u3 u5 u7 t) (fdv (((2 * z) * 65536) + t) (2 * t))) (mixL (mx2 u0 u2 u4 t) (mx3 u0 u2 u4 u6 t) (fdv (((2 * z) * 65536) + t) (2 * t))) (mixL (mx2 u1 u3 u5 t) (mx3 u1 u3 u5 u7 t) (fdv (((2 * z) * 65536) + t) (2 * t))) (mx3 u0 u2 u4 u6 t) (mx3 u1 u3 u5 u7 t))))), (qm, .inl (cJ, 8, .inr (.inl (f8 g0'_22 g1'_23 g2'_24 g3'_25 g4'_26 g5'_27 g6'_28 g7'_29))))] := by rw [← f8_1]; exact hD
    refine lv_iinc (v := 2) (lv' := [(5, .int 2), (0, .ref hm), (1, .long z), (3, .long t)]) hx hb d_M_cut_89 hl (k := 0) rfl (by first | exact nI_add _ 1 | rfl | decide) (by decide) rfl (fun ls hl => ?_)
    refine lv_goto (tgt := 68) hx hb d_M_cut_92 (by decide) ?_
    refine lv_iload hx hb d_M_cut_68 (lv_at hl 0 rfl) ?_
    refine lv_bipush (v := 8) hx hb d_M_cut_70 (by decide) ?_
    refine bn_ge (a1 := 2) (b1 := 8) (tgt := 95) hx hb (by omega) (by omega) d_M_cut_72 (by decide) (fun c_32 => ?_) (fun c_32 => ?_)
    · exact absurd c_32 (by decide)
    refine lv_aload_n hx hb d_M_cut_75 rfl (lv_at hl 1 rfl) ?_
    refine va_get (D := D) (ci := 1) (v := .ref qu) (C := R_M) (T := T_M) (N := 7) hx hb hts (ui_M _) hown hK hP 0 rfl rfl 3 (by decide) (hts _ (gwc gw_531)) (fun _ h9 => h9) rfl d_M_cut_76 ?_
    refine lv_iload hx hb d_M_cut_79 (lv_at hl 0 rfl) ?_
    refine lv_aload_n hx hb d_M_cut_81 rfl (lv_at hl 1 rfl) ?_
    refine va_get (D := D) (ci := 1) (v := .ref qh) (C := R_M) (T := T_M) (N := 7) hx hb hts (ui_M _) hown hK hP 0 rfl rfl 5 (by decide) (hts _ (gwc gw_533)) (fun _ h9 => h9) rfl d_M_cut_82 ?_
    refine lv_iload hx hb d_M_cut_85 (lv_at hl 0 rfl) ?_
    refine ld_l hx hb hK hP 3 2 rfl rfl 2 (by omega) (by omega) d_M_cut_87 ?_
    refine tp_l (mx2 (mixL u0 u2 t) (mx2 u0 u2 u4 t) (mx3 u0 u2 u4 u6 t) (fdv (((2 * z) * 65536) + t) (2 * t))) (rfl) ?_
    refine st_l hx hb hK hP hD hS 1 2 rfl rfl 2 (by omega) (by omega) d_M_cut_88 (fun H locs hP hD hS => ?_)
    have hP : va_P D cl [(hm, .inr (1, [.ref a, .ref b, .ref qa, .ref qu, .ref qb, .ref qh, .ref qm])), (qu, .inl (cJ, 8, .inr (.inl (f8 (mx3 u0 (mixL u0 u2 t) (mx2 u0 u2 u4 t) (mx3 u0 u2 u4 u6 t) (fdv (((2 * z) * 65536) + t) (2 * t))) (mx3 u1 (mixL u1 u3 t) (mx2 u1 u3 u5 t) (mx3 u1 u3 u5 u7 t) (fdv (((2 * z) * 65536) + t) (2 * t))) (mx2 (mixL u0 u2 t) (mx2 u0 u2 u4 t) (mx3 u0 u2 u4 u6 t) (fdv (((2 * z) * 65536) + t) (2 * t))) (mixL u1 u3 t) (mx2 u0 u2 u4 t) (mx2 u1 u3 u5 t) (mx3 u0 u2 u4 u6 t) (mx3 u1 u3 u5 u7 t))))), (qb, .inl (cJ, 8, .inr (.inl (f8 u0 u1 (mixL u0 (mixL u0 u2 t) (fdv (((2 * z) * 65536) + t) (2 * t))) (mixL u1 (mixL u1 u3 t) (fdv (((2 * z) * 65536) + t) (2 * t))) (mx2 u0 (mixL u0 u2 t) (mx2 u0 u2 u4 t) (fdv (((2 * z) * 65536) + t) (2 * t))) (mx2 u1 (mixL u1 u3 t) (mx2 u1 u3 u5 t) (fdv (((2 * z) * 65536) + t) (2 * t))) (mx3 u0 (mixL u0 u2 t) (mx2 u0 u2 u4 t) (mx3 u0 u2 u4 u6 t) (fdv (((2 * z) * 65536) + t) (2 * t))) (mx3 u1 (mixL u1 u3 t) (mx2 u1 u3 u5 t) (mx3 u1 u3 u5 u7 t) (fdv (((2 * z) * 65536) + t) (2 * t))))))), (qh, .inl (cJ, 8, .inr (.inl (f8 (mx3 u0 (mixL u0 u2 t) (mx2 u0 u2 u4 t) (mx3 u0 u2 u4 u6 t) (fdv (((2 * z) * 65536) + t) (2 * t))) (mx3 u1 (mixL u1 u3 t) (mx2 u1 u3 u5 t) (mx3 u1 u3 u5 u7 t) (fdv (((2 * z) * 65536) + t) (2 * t))) (mx2 (mixL u0 u2 t) (mx2 u0 u2 u4 t) (mx3 u0 u2 u4 u6 t) (fdv (((2 * z) * 65536) + t) (2 * t))) (mx2 (mixL u1 u3 t) (mx2 u1 u3 u5 t) (mx3 u1 u3 u5 u7 t) (fdv (((2 * z) * 65536) + t) (2 * t))) (mixL (mx2 u0 u2 u4 t) (mx3 u0 u2 u4 u6 t) (fdv (((2 * z) * 65536) + t) (2 * t))) (mixL (mx2 u1 u3 u5 t) (mx3 u1 u3 u5 u7 t) (fdv (((2 * z) * 65536) + t) (2 * t))) (mx3 u0 u2 u4 u6 t) (mx3 u1 u3 u5 u7 t))))), (qm, .inl (cJ, 8, .inr (.inl (f8 g0'_22 g1'_23 g2'_24 g3'_25 g4'_26 g5'_27 g6'_28 g7'_29))))] H := by rw [← f8_2]; exact hP
    have hD : va_D A [(hm, .inr (1, [.ref a, .ref b, .ref qa, .ref qu, .ref qb, .ref qh, .ref qm])), (qu, .inl (cJ, 8, .inr (.inl (f8 (mx3 u0 (mixL u0 u2 t) (mx2 u0 u2 u4 t) (mx3 u0 u2 u4 u6 t) (fdv (((2 * z) * 65536) + t) (2 * t))) (mx3 u1 (mixL u1 u3 t) (mx2 u1 u3 u5 t) (mx3 u1 u3 u5 u7 t) (fdv (((2 * z) * 65536) + t) (2 * t))) (mx2 (mixL u0 u2 t) (mx2 u0 u2 u4 t) (mx3 u0 u2 u4 u6 t) (fdv (((2 * z) * 65536) + t) (2 * t))) (mixL u1 u3 t) (mx2 u0 u2 u4 t) (mx2 u1 u3 u5 t) (mx3 u0 u2 u4 u6 t) (mx3 u1 u3 u5 u7 t))))), (qb, .inl (cJ, 8, .inr (.inl (f8 u0 u1 (mixL u0 (mixL u0 u2 t) (fdv (((2 * z) * 65536) + t) (2 * t))) (mixL u1 (mixL u1 u3 t) (fdv (((2 * z) * 65536) + t) (2 * t))) (mx2 u0 (mixL u0 u2 t) (mx2 u0 u2 u4 t) (fdv (((2 * z) * 65536) + t) (2 * t))) (mx2 u1 (mixL u1 u3 t) (mx2 u1 u3 u5 t) (fdv (((2 * z) * 65536) + t) (2 * t))) (mx3 u0 (mixL u0 u2 t) (mx2 u0 u2 u4 t) (mx3 u0 u2 u4 u6 t) (fdv (((2 * z) * 65536) + t) (2 * t))) (mx3 u1 (mixL u1 u3 t) (mx2 u1 u3 u5 t) (mx3 u1 u3 u5 u7 t) (fdv (((2 * z) * 65536) + t) (2 * t))))))), (qh, .inl (cJ, 8, .inr (.inl (f8 (mx3 u0 (mixL u0 u2 t) (mx2 u0 u2 u4 t) (mx3 u0 u2 u4 u6 t) (fdv (((2 * z) * 65536) + t) (2 * t))) (mx3 u1 (mixL u1 u3 t) (mx2 u1 u3 u5 t) (mx3 u1 u3 u5 u7 t) (fdv (((2 * z) * 65536) + t) (2 * t))) (mx2 (mixL u0 u2 t) (mx2 u0 u2 u4 t) (mx3 u0 u2 u4 u6 t) (fdv (((2 * z) * 65536) + t) (2 * t))) (mx2 (mixL u1 u3 t) (mx2 u1 u3 u5 t) (mx3 u1 u3 u5 u7 t) (fdv (((2 * z) * 65536) + t) (2 * t))) (mixL (mx2 u0 u2 u4 t) (mx3 u0 u2 u4 u6 t) (fdv (((2 * z) * 65536) + t) (2 * t))) (mixL (mx2 u1 u3 u5 t) (mx3 u1 u3 u5 u7 t) (fdv (((2 * z) * 65536) + t) (2 * t))) (mx3 u0 u2 u4 u6 t) (mx3 u1 u3 u5 u7 t))))), (qm, .inl (cJ, 8, .inr (.inl (f8 g0'_22 g1'_23 g2'_24 g3'_25 g4'_26 g5'_27 g6'_28 g7'_29))))] := by rw [← f8_2]; exact hD
    refine lv_iinc (v := 3) (lv' := [(5, .int 3), (0, .ref hm), (1, .long z), (3, .long t)]) hx hb d_M_cut_89 hl (k := 0) rfl (by first | exact nI_add _ 1 | rfl | decide) (by decide) rfl (fun ls hl => ?_)
    refine lv_goto (tgt := 68) hx hb d_M_cut_92 (by decide) ?_
    refine lv_iload hx hb d_M_cut_68 (lv_at hl 0 rfl) ?_
    refine lv_bipush (v := 8) hx hb d_M_cut_70 (by decide) ?_
    refine bn_ge (a1 := 3) (b1 := 8) (tgt := 95) hx hb (by omega) (by omega) d_M_cut_72 (by decide) (fun c_33 => ?_) (fun c_33 => ?_)
    · exact absurd c_33 (by decide)
    refine lv_aload_n hx hb d_M_cut_75 rfl (lv_at hl 1 rfl) ?_
    refine va_get (D := D) (ci := 1) (v := .ref qu) (C := R_M) (T := T_M) (N := 7) hx hb hts (ui_M _) hown hK hP 0 rfl rfl 3 (by decide) (hts _ (gwc gw_531)) (fun _ h9 => h9) rfl d_M_cut_76 ?_
    refine lv_iload hx hb d_M_cut_79 (lv_at hl 0 rfl) ?_
    refine lv_aload_n hx hb d_M_cut_81 rfl (lv_at hl 1 rfl) ?_
    refine va_get (D := D) (ci := 1) (v := .ref qh) (C := R_M) (T := T_M) (N := 7) hx hb hts (ui_M _) hown hK hP 0 rfl rfl 5 (by decide) (hts _ (gwc gw_533)) (fun _ h9 => h9) rfl d_M_cut_82 ?_
    refine lv_iload hx hb d_M_cut_85 (lv_at hl 0 rfl) ?_
    refine ld_l hx hb hK hP 3 2 rfl rfl 3 (by omega) (by omega) d_M_cut_87 ?_
    refine tp_l (mx2 (mixL u1 u3 t) (mx2 u1 u3 u5 t) (mx3 u1 u3 u5 u7 t) (fdv (((2 * z) * 65536) + t) (2 * t))) (rfl) ?_
    refine st_l hx hb hK hP hD hS 1 2 rfl rfl 3 (by omega) (by omega) d_M_cut_88 (fun H locs hP hD hS => ?_)
    have hP : va_P D cl [(hm, .inr (1, [.ref a, .ref b, .ref qa, .ref qu, .ref qb, .ref qh, .ref qm])), (qu, .inl (cJ, 8, .inr (.inl (f8 (mx3 u0 (mixL u0 u2 t) (mx2 u0 u2 u4 t) (mx3 u0 u2 u4 u6 t) (fdv (((2 * z) * 65536) + t) (2 * t))) (mx3 u1 (mixL u1 u3 t) (mx2 u1 u3 u5 t) (mx3 u1 u3 u5 u7 t) (fdv (((2 * z) * 65536) + t) (2 * t))) (mx2 (mixL u0 u2 t) (mx2 u0 u2 u4 t) (mx3 u0 u2 u4 u6 t) (fdv (((2 * z) * 65536) + t) (2 * t))) (mx2 (mixL u1 u3 t) (mx2 u1 u3 u5 t) (mx3 u1 u3 u5 u7 t) (fdv (((2 * z) * 65536) + t) (2 * t))) (mx2 u0 u2 u4 t) (mx2 u1 u3 u5 t) (mx3 u0 u2 u4 u6 t) (mx3 u1 u3 u5 u7 t))))), (qb, .inl (cJ, 8, .inr (.inl (f8 u0 u1 (mixL u0 (mixL u0 u2 t) (fdv (((2 * z) * 65536) + t) (2 * t))) (mixL u1 (mixL u1 u3 t) (fdv (((2 * z) * 65536) + t) (2 * t))) (mx2 u0 (mixL u0 u2 t) (mx2 u0 u2 u4 t) (fdv (((2 * z) * 65536) + t) (2 * t))) (mx2 u1 (mixL u1 u3 t) (mx2 u1 u3 u5 t) (fdv (((2 * z) * 65536) + t) (2 * t))) (mx3 u0 (mixL u0 u2 t) (mx2 u0 u2 u4 t) (mx3 u0 u2 u4 u6 t) (fdv (((2 * z) * 65536) + t) (2 * t))) (mx3 u1 (mixL u1 u3 t) (mx2 u1 u3 u5 t) (mx3 u1 u3 u5 u7 t) (fdv (((2 * z) * 65536) + t) (2 * t))))))), (qh, .inl (cJ, 8, .inr (.inl (f8 (mx3 u0 (mixL u0 u2 t) (mx2 u0 u2 u4 t) (mx3 u0 u2 u4 u6 t) (fdv (((2 * z) * 65536) + t) (2 * t))) (mx3 u1 (mixL u1 u3 t) (mx2 u1 u3 u5 t) (mx3 u1 u3 u5 u7 t) (fdv (((2 * z) * 65536) + t) (2 * t))) (mx2 (mixL u0 u2 t) (mx2 u0 u2 u4 t) (mx3 u0 u2 u4 u6 t) (fdv (((2 * z) * 65536) + t) (2 * t))) (mx2 (mixL u1 u3 t) (mx2 u1 u3 u5 t) (mx3 u1 u3 u5 u7 t) (fdv (((2 * z) * 65536) + t) (2 * t))) (mixL (mx2 u0 u2 u4 t) (mx3 u0 u2 u4 u6 t) (fdv (((2 * z) * 65536) + t) (2 * t))) (mixL (mx2 u1 u3 u5 t) (mx3 u1 u3 u5 u7 t) (fdv (((2 * z) * 65536) + t) (2 * t))) (mx3 u0 u2 u4 u6 t) (mx3 u1 u3 u5 u7 t))))), (qm, .inl (cJ, 8, .inr (.inl (f8 g0'_22 g1'_23 g2'_24 g3'_25 g4'_26 g5'_27 g6'_28 g7'_29))))] H := by rw [← f8_3]; exact hP
    have hD : va_D A [(hm, .inr (1, [.ref a, .ref b, .ref qa, .ref qu, .ref qb, .ref qh, .ref qm])), (qu, .inl (cJ, 8, .inr (.inl (f8 (mx3 u0 (mixL u0 u2 t) (mx2 u0 u2 u4 t) (mx3 u0 u2 u4 u6 t) (fdv (((2 * z) * 65536) + t) (2 * t))) (mx3 u1 (mixL u1 u3 t) (mx2 u1 u3 u5 t) (mx3 u1 u3 u5 u7 t) (fdv (((2 * z) * 65536) + t) (2 * t))) (mx2 (mixL u0 u2 t) (mx2 u0 u2 u4 t) (mx3 u0 u2 u4 u6 t) (fdv (((2 * z) * 65536) + t) (2 * t))) (mx2 (mixL u1 u3 t) (mx2 u1 u3 u5 t) (mx3 u1 u3 u5 u7 t) (fdv (((2 * z) * 65536) + t) (2 * t))) (mx2 u0 u2 u4 t) (mx2 u1 u3 u5 t) (mx3 u0 u2 u4 u6 t) (mx3 u1 u3 u5 u7 t))))), (qb, .inl (cJ, 8, .inr (.inl (f8 u0 u1 (mixL u0 (mixL u0 u2 t) (fdv (((2 * z) * 65536) + t) (2 * t))) (mixL u1 (mixL u1 u3 t) (fdv (((2 * z) * 65536) + t) (2 * t))) (mx2 u0 (mixL u0 u2 t) (mx2 u0 u2 u4 t) (fdv (((2 * z) * 65536) + t) (2 * t))) (mx2 u1 (mixL u1 u3 t) (mx2 u1 u3 u5 t) (fdv (((2 * z) * 65536) + t) (2 * t))) (mx3 u0 (mixL u0 u2 t) (mx2 u0 u2 u4 t) (mx3 u0 u2 u4 u6 t) (fdv (((2 * z) * 65536) + t) (2 * t))) (mx3 u1 (mixL u1 u3 t) (mx2 u1 u3 u5 t) (mx3 u1 u3 u5 u7 t) (fdv (((2 * z) * 65536) + t) (2 * t))))))), (qh, .inl (cJ, 8, .inr (.inl (f8 (mx3 u0 (mixL u0 u2 t) (mx2 u0 u2 u4 t) (mx3 u0 u2 u4 u6 t) (fdv (((2 * z) * 65536) + t) (2 * t))) (mx3 u1 (mixL u1 u3 t) (mx2 u1 u3 u5 t) (mx3 u1 u3 u5 u7 t) (fdv (((2 * z) * 65536) + t) (2 * t))) (mx2 (mixL u0 u2 t) (mx2 u0 u2 u4 t) (mx3 u0 u2 u4 u6 t) (fdv (((2 * z) * 65536) + t) (2 * t))) (mx2 (mixL u1 u3 t) (mx2 u1 u3 u5 t) (mx3 u1 u3 u5 u7 t) (fdv (((2 * z) * 65536) + t) (2 * t))) (mixL (mx2 u0 u2 u4 t) (mx3 u0 u2 u4 u6 t) (fdv (((2 * z) * 65536) + t) (2 * t))) (mixL (mx2 u1 u3 u5 t) (mx3 u1 u3 u5 u7 t) (fdv (((2 * z) * 65536) + t) (2 * t))) (mx3 u0 u2 u4 u6 t) (mx3 u1 u3 u5 u7 t))))), (qm, .inl (cJ, 8, .inr (.inl (f8 g0'_22 g1'_23 g2'_24 g3'_25 g4'_26 g5'_27 g6'_28 g7'_29))))] := by rw [← f8_3]; exact hD
    refine lv_iinc (v := 4) (lv' := [(5, .int 4), (0, .ref hm), (1, .long z), (3, .long t)]) hx hb d_M_cut_89 hl (k := 0) rfl (by first | exact nI_add _ 1 | rfl | decide) (by decide) rfl (fun ls hl => ?_)
    refine lv_goto (tgt := 68) hx hb d_M_cut_92 (by decide) ?_
    refine lv_iload hx hb d_M_cut_68 (lv_at hl 0 rfl) ?_
    refine lv_bipush (v := 8) hx hb d_M_cut_70 (by decide) ?_
    refine bn_ge (a1 := 4) (b1 := 8) (tgt := 95) hx hb (by omega) (by omega) d_M_cut_72 (by decide) (fun c_34 => ?_) (fun c_34 => ?_)
    · exact absurd c_34 (by decide)
    refine lv_aload_n hx hb d_M_cut_75 rfl (lv_at hl 1 rfl) ?_
    refine va_get (D := D) (ci := 1) (v := .ref qu) (C := R_M) (T := T_M) (N := 7) hx hb hts (ui_M _) hown hK hP 0 rfl rfl 3 (by decide) (hts _ (gwc gw_531)) (fun _ h9 => h9) rfl d_M_cut_76 ?_
    refine lv_iload hx hb d_M_cut_79 (lv_at hl 0 rfl) ?_
    refine lv_aload_n hx hb d_M_cut_81 rfl (lv_at hl 1 rfl) ?_
    refine va_get (D := D) (ci := 1) (v := .ref qh) (C := R_M) (T := T_M) (N := 7) hx hb hts (ui_M _) hown hK hP 0 rfl rfl 5 (by decide) (hts _ (gwc gw_533)) (fun _ h9 => h9) rfl d_M_cut_82 ?_
    refine lv_iload hx hb d_M_cut_85 (lv_at hl 0 rfl) ?_
    refine ld_l hx hb hK hP 3 2 rfl rfl 4 (by omega) (by omega) d_M_cut_87 ?_
    refine tp_l (mixL (mx2 u0 u2 u4 t) (mx3 u0 u2 u4 u6 t) (fdv (((2 * z) * 65536) + t) (2 * t))) (rfl) ?_
    refine st_l hx hb hK hP hD hS 1 2 rfl rfl 4 (by omega) (by omega) d_M_cut_88 (fun H locs hP hD hS => ?_)
    have hP : va_P D cl [(hm, .inr (1, [.ref a, .ref b, .ref qa, .ref qu, .ref qb, .ref qh, .ref qm])), (qu, .inl (cJ, 8, .inr (.inl (f8 (mx3 u0 (mixL u0 u2 t) (mx2 u0 u2 u4 t) (mx3 u0 u2 u4 u6 t) (fdv (((2 * z) * 65536) + t) (2 * t))) (mx3 u1 (mixL u1 u3 t) (mx2 u1 u3 u5 t) (mx3 u1 u3 u5 u7 t) (fdv (((2 * z) * 65536) + t) (2 * t))) (mx2 (mixL u0 u2 t) (mx2 u0 u2 u4 t) (mx3 u0 u2 u4 u6 t) (fdv (((2 * z) * 65536) + t) (2 * t))) (mx2 (mixL u1 u3 t) (mx2 u1 u3 u5 t) (mx3 u1 u3 u5 u7 t) (fdv (((2 * z) * 65536) + t) (2 * t))) (mixL (mx2 u0 u2 u4 t) (mx3 u0 u2 u4 u6 t) (fdv (((2 * z) * 65536) + t) (2 * t))) (mx2 u1 u3 u5 t) (mx3 u0 u2 u4 u6 t) (mx3 u1 u3 u5 u7 t))))), (qb, .inl (cJ, 8, .inr (.inl (f8 u0 u1 (mixL u0 (mixL u0 u2 t) (fdv (((2 * z) * 65536) + t) (2 * t))) (mixL u1 (mixL u1 u3 t) (fdv (((2 * z) * 65536) + t) (2 * t))) (mx2 u0 (mixL u0 u2 t) (mx2 u0 u2 u4 t) (fdv (((2 * z) * 65536) + t) (2 * t))) (mx2 u1 (mixL u1 u3 t) (mx2 u1 u3 u5 t) (fdv (((2 * z) * 65536) + t) (2 * t))) (mx3 u0 (mixL u0 u2 t) (mx2 u0 u2 u4 t) (mx3 u0 u2 u4 u6 t) (fdv (((2 * z) * 65536) + t) (2 * t))) (mx3 u1 (mixL u1 u3 t) (mx2 u1 u3 u5 t) (mx3 u1 u3 u5 u7 t) (fdv (((2 * z) * 65536) + t) (2 * t))))))), (qh, .inl (cJ, 8, .inr (.inl (f8 (mx3 u0 (mixL u0 u2 t) (mx2 u0 u2 u4 t) (mx3 u0 u2 u4 u6 t) (fdv (((2 * z) * 65536) + t) (2 * t))) (mx3 u1 (mixL u1 u3 t) (mx2 u1 u3 u5 t) (mx3 u1 u3 u5 u7 t) (fdv (((2 * z) * 65536) + t) (2 * t))) (mx2 (mixL u0 u2 t) (mx2 u0 u2 u4 t) (mx3 u0 u2 u4 u6 t) (fdv (((2 * z) * 65536) + t) (2 * t))) (mx2 (mixL u1 u3 t) (mx2 u1 u3 u5 t) (mx3 u1 u3 u5 u7 t) (fdv (((2 * z) * 65536) + t) (2 * t))) (mixL (mx2 u0 u2 u4 t) (mx3 u0 u2 u4 u6 t) (fdv (((2 * z) * 65536) + t) (2 * t))) (mixL (mx2 u1 u3 u5 t) (mx3 u1 u3 u5 u7 t) (fdv (((2 * z) * 65536) + t) (2 * t))) (mx3 u0 u2 u4 u6 t) (mx3 u1 u3 u5 u7 t))))), (qm, .inl (cJ, 8, .inr (.inl (f8 g0'_22 g1'_23 g2'_24 g3'_25 g4'_26 g5'_27 g6'_28 g7'_29))))] H := by rw [← f8_4]; exact hP
    have hD : va_D A [(hm, .inr (1, [.ref a, .ref b, .ref qa, .ref qu, .ref qb, .ref qh, .ref qm])), (qu, .inl (cJ, 8, .inr (.inl (f8 (mx3 u0 (mixL u0 u2 t) (mx2 u0 u2 u4 t) (mx3 u0 u2 u4 u6 t) (fdv (((2 * z) * 65536) + t) (2 * t))) (mx3 u1 (mixL u1 u3 t) (mx2 u1 u3 u5 t) (mx3 u1 u3 u5 u7 t) (fdv (((2 * z) * 65536) + t) (2 * t))) (mx2 (mixL u0 u2 t) (mx2 u0 u2 u4 t) (mx3 u0 u2 u4 u6 t) (fdv (((2 * z) * 65536) + t) (2 * t))) (mx2 (mixL u1 u3 t) (mx2 u1 u3 u5 t) (mx3 u1 u3 u5 u7 t) (fdv (((2 * z) * 65536) + t) (2 * t))) (mixL (mx2 u0 u2 u4 t) (mx3 u0 u2 u4 u6 t) (fdv (((2 * z) * 65536) + t) (2 * t))) (mx2 u1 u3 u5 t) (mx3 u0 u2 u4 u6 t) (mx3 u1 u3 u5 u7 t))))), (qb, .inl (cJ, 8, .inr (.inl (f8 u0 u1 (mixL u0 (mixL u0 u2 t) (fdv (((2 * z) * 65536) + t) (2 * t))) (mixL u1 (mixL u1 u3 t) (fdv (((2 * z) * 65536) + t) (2 * t))) (mx2 u0 (mixL u0 u2 t) (mx2 u0 u2 u4 t) (fdv (((2 * z) * 65536) + t) (2 * t))) (mx2 u1 (mixL u1 u3 t) (mx2 u1 u3 u5 t) (fdv (((2 * z) * 65536) + t) (2 * t))) (mx3 u0 (mixL u0 u2 t) (mx2 u0 u2 u4 t) (mx3 u0 u2 u4 u6 t) (fdv (((2 * z) * 65536) + t) (2 * t))) (mx3 u1 (mixL u1 u3 t) (mx2 u1 u3 u5 t) (mx3 u1 u3 u5 u7 t) (fdv (((2 * z) * 65536) + t) (2 * t))))))), (qh, .inl (cJ, 8, .inr (.inl (f8 (mx3 u0 (mixL u0 u2 t) (mx2 u0 u2 u4 t) (mx3 u0 u2 u4 u6 t) (fdv (((2 * z) * 65536) + t) (2 * t))) (mx3 u1 (mixL u1 u3 t) (mx2 u1 u3 u5 t) (mx3 u1 u3 u5 u7 t) (fdv (((2 * z) * 65536) + t) (2 * t))) (mx2 (mixL u0 u2 t) (mx2 u0 u2 u4 t) (mx3 u0 u2 u4 u6 t) (fdv (((2 * z) * 65536) + t) (2 * t))) (mx2 (mixL u1 u3 t) (mx2 u1 u3 u5 t) (mx3 u1 u3 u5 u7 t) (fdv (((2 * z) * 65536) + t) (2 * t))) (mixL (mx2 u0 u2 u4 t) (mx3 u0 u2 u4 u6 t) (fdv (((2 * z) * 65536) + t) (2 * t))) (mixL (mx2 u1 u3 u5 t) (mx3 u1 u3 u5 u7 t) (fdv (((2 * z) * 65536) + t) (2 * t))) (mx3 u0 u2 u4 u6 t) (mx3 u1 u3 u5 u7 t))))), (qm, .inl (cJ, 8, .inr (.inl (f8 g0'_22 g1'_23 g2'_24 g3'_25 g4'_26 g5'_27 g6'_28 g7'_29))))] := by rw [← f8_4]; exact hD
    refine lv_iinc (v := 5) (lv' := [(5, .int 5), (0, .ref hm), (1, .long z), (3, .long t)]) hx hb d_M_cut_89 hl (k := 0) rfl (by first | exact nI_add _ 1 | rfl | decide) (by decide) rfl (fun ls hl => ?_)
    refine lv_goto (tgt := 68) hx hb d_M_cut_92 (by decide) ?_
    refine lv_iload hx hb d_M_cut_68 (lv_at hl 0 rfl) ?_
    refine lv_bipush (v := 8) hx hb d_M_cut_70 (by decide) ?_
    refine bn_ge (a1 := 5) (b1 := 8) (tgt := 95) hx hb (by omega) (by omega) d_M_cut_72 (by decide) (fun c_35 => ?_) (fun c_35 => ?_)
    · exact absurd c_35 (by decide)
    refine lv_aload_n hx hb d_M_cut_75 rfl (lv_at hl 1 rfl) ?_
    refine va_get (D := D) (ci := 1) (v := .ref qu) (C := R_M) (T := T_M) (N := 7) hx hb hts (ui_M _) hown hK hP 0 rfl rfl 3 (by decide) (hts _ (gwc gw_531)) (fun _ h9 => h9) rfl d_M_cut_76 ?_
    refine lv_iload hx hb d_M_cut_79 (lv_at hl 0 rfl) ?_
    refine lv_aload_n hx hb d_M_cut_81 rfl (lv_at hl 1 rfl) ?_
    refine va_get (D := D) (ci := 1) (v := .ref qh) (C := R_M) (T := T_M) (N := 7) hx hb hts (ui_M _) hown hK hP 0 rfl rfl 5 (by decide) (hts _ (gwc gw_533)) (fun _ h9 => h9) rfl d_M_cut_82 ?_
    refine lv_iload hx hb d_M_cut_85 (lv_at hl 0 rfl) ?_
    refine ld_l hx hb hK hP 3 2 rfl rfl 5 (by omega) (by omega) d_M_cut_87 ?_
    refine tp_l (mixL (mx2 u1 u3 u5 t) (mx3 u1 u3 u5 u7 t) (fdv (((2 * z) * 65536) + t) (2 * t))) (rfl) ?_
    refine st_l hx hb hK hP hD hS 1 2 rfl rfl 5 (by omega) (by omega) d_M_cut_88 (fun H locs hP hD hS => ?_)
    have hP : va_P D cl [(hm, .inr (1, [.ref a, .ref b, .ref qa, .ref qu, .ref qb, .ref qh, .ref qm])), (qu, .inl (cJ, 8, .inr (.inl (f8 (mx3 u0 (mixL u0 u2 t) (mx2 u0 u2 u4 t) (mx3 u0 u2 u4 u6 t) (fdv (((2 * z) * 65536) + t) (2 * t))) (mx3 u1 (mixL u1 u3 t) (mx2 u1 u3 u5 t) (mx3 u1 u3 u5 u7 t) (fdv (((2 * z) * 65536) + t) (2 * t))) (mx2 (mixL u0 u2 t) (mx2 u0 u2 u4 t) (mx3 u0 u2 u4 u6 t) (fdv (((2 * z) * 65536) + t) (2 * t))) (mx2 (mixL u1 u3 t) (mx2 u1 u3 u5 t) (mx3 u1 u3 u5 u7 t) (fdv (((2 * z) * 65536) + t) (2 * t))) (mixL (mx2 u0 u2 u4 t) (mx3 u0 u2 u4 u6 t) (fdv (((2 * z) * 65536) + t) (2 * t))) (mixL (mx2 u1 u3 u5 t) (mx3 u1 u3 u5 u7 t) (fdv (((2 * z) * 65536) + t) (2 * t))) (mx3 u0 u2 u4 u6 t) (mx3 u1 u3 u5 u7 t))))), (qb, .inl (cJ, 8, .inr (.inl (f8 u0 u1 (mixL u0 (mixL u0 u2 t) (fdv (((2 * z) * 65536) + t) (2 * t))) (mixL u1 (mixL u1 u3 t) (fdv (((2 * z) * 65536) + t) (2 * t))) (mx2 u0 (mixL u0 u2 t) (mx2 u0 u2 u4 t) (fdv (((2 * z) * 65536) + t) (2 * t))) (mx2 u1 (mixL u1 u3 t) (mx2 u1 u3 u5 t) (fdv (((2 * z) * 65536) + t) (2 * t))) (mx3 u0 (mixL u0 u2 t) (mx2 u0 u2 u4 t) (mx3 u0 u2 u4 u6 t) (fdv (((2 * z) * 65536) + t) (2 * t))) (mx3 u1 (mixL u1 u3 t) (mx2 u1 u3 u5 t) (mx3 u1 u3 u5 u7 t) (fdv (((2 * z) * 65536) + t) (2 * t))))))), (qh, .inl (cJ, 8, .inr (.inl (f8 (mx3 u0 (mixL u0 u2 t) (mx2 u0 u2 u4 t) (mx3 u0 u2 u4 u6 t) (fdv (((2 * z) * 65536) + t) (2 * t))) (mx3 u1 (mixL u1 u3 t) (mx2 u1 u3 u5 t) (mx3 u1 u3 u5 u7 t) (fdv (((2 * z) * 65536) + t) (2 * t))) (mx2 (mixL u0 u2 t) (mx2 u0 u2 u4 t) (mx3 u0 u2 u4 u6 t) (fdv (((2 * z) * 65536) + t) (2 * t))) (mx2 (mixL u1 u3 t) (mx2 u1 u3 u5 t) (mx3 u1 u3 u5 u7 t) (fdv (((2 * z) * 65536) + t) (2 * t))) (mixL (mx2 u0 u2 u4 t) (mx3 u0 u2 u4 u6 t) (fdv (((2 * z) * 65536) + t) (2 * t))) (mixL (mx2 u1 u3 u5 t) (mx3 u1 u3 u5 u7 t) (fdv (((2 * z) * 65536) + t) (2 * t))) (mx3 u0 u2 u4 u6 t) (mx3 u1 u3 u5 u7 t))))), (qm, .inl (cJ, 8, .inr (.inl (f8 g0'_22 g1'_23 g2'_24 g3'_25 g4'_26 g5'_27 g6'_28 g7'_29))))] H := by rw [← f8_5]; exact hP
    have hD : va_D A [(hm, .inr (1, [.ref a, .ref b, .ref qa, .ref qu, .ref qb, .ref qh, .ref qm])), (qu, .inl (cJ, 8, .inr (.inl (f8 (mx3 u0 (mixL u0 u2 t) (mx2 u0 u2 u4 t) (mx3 u0 u2 u4 u6 t) (fdv (((2 * z) * 65536) + t) (2 * t))) (mx3 u1 (mixL u1 u3 t) (mx2 u1 u3 u5 t) (mx3 u1 u3 u5 u7 t) (fdv (((2 * z) * 65536) + t) (2 * t))) (mx2 (mixL u0 u2 t) (mx2 u0 u2 u4 t) (mx3 u0 u2 u4 u6 t) (fdv (((2 * z) * 65536) + t) (2 * t))) (mx2 (mixL u1 u3 t) (mx2 u1 u3 u5 t) (mx3 u1 u3 u5 u7 t) (fdv (((2 * z) * 65536) + t) (2 * t))) (mixL (mx2 u0 u2 u4 t) (mx3 u0 u2 u4 u6 t) (fdv (((2 * z) * 65536) + t) (2 * t))) (mixL (mx2 u1 u3 u5 t) (mx3 u1 u3 u5 u7 t) (fdv (((2 * z) * 65536) + t) (2 * t))) (mx3 u0 u2 u4 u6 t) (mx3 u1 u3 u5 u7 t))))), (qb, .inl (cJ, 8, .inr (.inl (f8 u0 u1 (mixL u0 (mixL u0 u2 t) (fdv (((2 * z) * 65536) + t) (2 * t))) (mixL u1 (mixL u1 u3 t) (fdv (((2 * z) * 65536) + t) (2 * t))) (mx2 u0 (mixL u0 u2 t) (mx2 u0 u2 u4 t) (fdv (((2 * z) * 65536) + t) (2 * t))) (mx2 u1 (mixL u1 u3 t) (mx2 u1 u3 u5 t) (fdv (((2 * z) * 65536) + t) (2 * t))) (mx3 u0 (mixL u0 u2 t) (mx2 u0 u2 u4 t) (mx3 u0 u2 u4 u6 t) (fdv (((2 * z) * 65536) + t) (2 * t))) (mx3 u1 (mixL u1 u3 t) (mx2 u1 u3 u5 t) (mx3 u1 u3 u5 u7 t) (fdv (((2 * z) * 65536) + t) (2 * t))))))), (qh, .inl (cJ, 8, .inr (.inl (f8 (mx3 u0 (mixL u0 u2 t) (mx2 u0 u2 u4 t) (mx3 u0 u2 u4 u6 t) (fdv (((2 * z) * 65536) + t) (2 * t))) (mx3 u1 (mixL u1 u3 t) (mx2 u1 u3 u5 t) (mx3 u1 u3 u5 u7 t) (fdv (((2 * z) * 65536) + t) (2 * t))) (mx2 (mixL u0 u2 t) (mx2 u0 u2 u4 t) (mx3 u0 u2 u4 u6 t) (fdv (((2 * z) * 65536) + t) (2 * t))) (mx2 (mixL u1 u3 t) (mx2 u1 u3 u5 t) (mx3 u1 u3 u5 u7 t) (fdv (((2 * z) * 65536) + t) (2 * t))) (mixL (mx2 u0 u2 u4 t) (mx3 u0 u2 u4 u6 t) (fdv (((2 * z) * 65536) + t) (2 * t))) (mixL (mx2 u1 u3 u5 t) (mx3 u1 u3 u5 u7 t) (fdv (((2 * z) * 65536) + t) (2 * t))) (mx3 u0 u2 u4 u6 t) (mx3 u1 u3 u5 u7 t))))), (qm, .inl (cJ, 8, .inr (.inl (f8 g0'_22 g1'_23 g2'_24 g3'_25 g4'_26 g5'_27 g6'_28 g7'_29))))] := by rw [← f8_5]; exact hD
    refine lv_iinc (v := 6) (lv' := [(5, .int 6), (0, .ref hm), (1, .long z), (3, .long t)]) hx hb d_M_cut_89 hl (k := 0) rfl (by first | exact nI_add _ 1 | rfl | decide) (by decide) rfl (fun ls hl => ?_)
    refine lv_goto (tgt := 68) hx hb d_M_cut_92 (by decide) ?_
    refine lv_iload hx hb d_M_cut_68 (lv_at hl 0 rfl) ?_
    refine lv_bipush (v := 8) hx hb d_M_cut_70 (by decide) ?_
    refine bn_ge (a1 := 6) (b1 := 8) (tgt := 95) hx hb (by omega) (by omega) d_M_cut_72 (by decide) (fun c_36 => ?_) (fun c_36 => ?_)
    · exact absurd c_36 (by decide)
    refine lv_aload_n hx hb d_M_cut_75 rfl (lv_at hl 1 rfl) ?_
    refine va_get (D := D) (ci := 1) (v := .ref qu) (C := R_M) (T := T_M) (N := 7) hx hb hts (ui_M _) hown hK hP 0 rfl rfl 3 (by decide) (hts _ (gwc gw_531)) (fun _ h9 => h9) rfl d_M_cut_76 ?_
    refine lv_iload hx hb d_M_cut_79 (lv_at hl 0 rfl) ?_
    refine lv_aload_n hx hb d_M_cut_81 rfl (lv_at hl 1 rfl) ?_
    refine va_get (D := D) (ci := 1) (v := .ref qh) (C := R_M) (T := T_M) (N := 7) hx hb hts (ui_M _) hown hK hP 0 rfl rfl 5 (by decide) (hts _ (gwc gw_533)) (fun _ h9 => h9) rfl d_M_cut_82 ?_
    refine lv_iload hx hb d_M_cut_85 (lv_at hl 0 rfl) ?_
    refine ld_l hx hb hK hP 3 2 rfl rfl 6 (by omega) (by omega) d_M_cut_87 ?_
    refine tp_l (mx3 u0 u2 u4 u6 t) (rfl) ?_
    refine st_l hx hb hK hP hD hS 1 2 rfl rfl 6 (by omega) (by omega) d_M_cut_88 (fun H locs hP hD hS => ?_)
    have hP : va_P D cl [(hm, .inr (1, [.ref a, .ref b, .ref qa, .ref qu, .ref qb, .ref qh, .ref qm])), (qu, .inl (cJ, 8, .inr (.inl (f8 (mx3 u0 (mixL u0 u2 t) (mx2 u0 u2 u4 t) (mx3 u0 u2 u4 u6 t) (fdv (((2 * z) * 65536) + t) (2 * t))) (mx3 u1 (mixL u1 u3 t) (mx2 u1 u3 u5 t) (mx3 u1 u3 u5 u7 t) (fdv (((2 * z) * 65536) + t) (2 * t))) (mx2 (mixL u0 u2 t) (mx2 u0 u2 u4 t) (mx3 u0 u2 u4 u6 t) (fdv (((2 * z) * 65536) + t) (2 * t))) (mx2 (mixL u1 u3 t) (mx2 u1 u3 u5 t) (mx3 u1 u3 u5 u7 t) (fdv (((2 * z) * 65536) + t) (2 * t))) (mixL (mx2 u0 u2 u4 t) (mx3 u0 u2 u4 u6 t) (fdv (((2 * z) * 65536) + t) (2 * t))) (mixL (mx2 u1 u3 u5 t) (mx3 u1 u3 u5 u7 t) (fdv (((2 * z) * 65536) + t) (2 * t))) (mx3 u0 u2 u4 u6 t) (mx3 u1 u3 u5 u7 t))))), (qb, .inl (cJ, 8, .inr (.inl (f8 u0 u1 (mixL u0 (mixL u0 u2 t) (fdv (((2 * z) * 65536) + t) (2 * t))) (mixL u1 (mixL u1 u3 t) (fdv (((2 * z) * 65536) + t) (2 * t))) (mx2 u0 (mixL u0 u2 t) (mx2 u0 u2 u4 t) (fdv (((2 * z) * 65536) + t) (2 * t))) (mx2 u1 (mixL u1 u3 t) (mx2 u1 u3 u5 t) (fdv (((2 * z) * 65536) + t) (2 * t))) (mx3 u0 (mixL u0 u2 t) (mx2 u0 u2 u4 t) (mx3 u0 u2 u4 u6 t) (fdv (((2 * z) * 65536) + t) (2 * t))) (mx3 u1 (mixL u1 u3 t) (mx2 u1 u3 u5 t) (mx3 u1 u3 u5 u7 t) (fdv (((2 * z) * 65536) + t) (2 * t))))))), (qh, .inl (cJ, 8, .inr (.inl (f8 (mx3 u0 (mixL u0 u2 t) (mx2 u0 u2 u4 t) (mx3 u0 u2 u4 u6 t) (fdv (((2 * z) * 65536) + t) (2 * t))) (mx3 u1 (mixL u1 u3 t) (mx2 u1 u3 u5 t) (mx3 u1 u3 u5 u7 t) (fdv (((2 * z) * 65536) + t) (2 * t))) (mx2 (mixL u0 u2 t) (mx2 u0 u2 u4 t) (mx3 u0 u2 u4 u6 t) (fdv (((2 * z) * 65536) + t) (2 * t))) (mx2 (mixL u1 u3 t) (mx2 u1 u3 u5 t) (mx3 u1 u3 u5 u7 t) (fdv (((2 * z) * 65536) + t) (2 * t))) (mixL (mx2 u0 u2 u4 t) (mx3 u0 u2 u4 u6 t) (fdv (((2 * z) * 65536) + t) (2 * t))) (mixL (mx2 u1 u3 u5 t) (mx3 u1 u3 u5 u7 t) (fdv (((2 * z) * 65536) + t) (2 * t))) (mx3 u0 u2 u4 u6 t) (mx3 u1 u3 u5 u7 t))))), (qm, .inl (cJ, 8, .inr (.inl (f8 g0'_22 g1'_23 g2'_24 g3'_25 g4'_26 g5'_27 g6'_28 g7'_29))))] H := by rw [← f8_6]; exact hP
    have hD : va_D A [(hm, .inr (1, [.ref a, .ref b, .ref qa, .ref qu, .ref qb, .ref qh, .ref qm])), (qu, .inl (cJ, 8, .inr (.inl (f8 (mx3 u0 (mixL u0 u2 t) (mx2 u0 u2 u4 t) (mx3 u0 u2 u4 u6 t) (fdv (((2 * z) * 65536) + t) (2 * t))) (mx3 u1 (mixL u1 u3 t) (mx2 u1 u3 u5 t) (mx3 u1 u3 u5 u7 t) (fdv (((2 * z) * 65536) + t) (2 * t))) (mx2 (mixL u0 u2 t) (mx2 u0 u2 u4 t) (mx3 u0 u2 u4 u6 t) (fdv (((2 * z) * 65536) + t) (2 * t))) (mx2 (mixL u1 u3 t) (mx2 u1 u3 u5 t) (mx3 u1 u3 u5 u7 t) (fdv (((2 * z) * 65536) + t) (2 * t))) (mixL (mx2 u0 u2 u4 t) (mx3 u0 u2 u4 u6 t) (fdv (((2 * z) * 65536) + t) (2 * t))) (mixL (mx2 u1 u3 u5 t) (mx3 u1 u3 u5 u7 t) (fdv (((2 * z) * 65536) + t) (2 * t))) (mx3 u0 u2 u4 u6 t) (mx3 u1 u3 u5 u7 t))))), (qb, .inl (cJ, 8, .inr (.inl (f8 u0 u1 (mixL u0 (mixL u0 u2 t) (fdv (((2 * z) * 65536) + t) (2 * t))) (mixL u1 (mixL u1 u3 t) (fdv (((2 * z) * 65536) + t) (2 * t))) (mx2 u0 (mixL u0 u2 t) (mx2 u0 u2 u4 t) (fdv (((2 * z) * 65536) + t) (2 * t))) (mx2 u1 (mixL u1 u3 t) (mx2 u1 u3 u5 t) (fdv (((2 * z) * 65536) + t) (2 * t))) (mx3 u0 (mixL u0 u2 t) (mx2 u0 u2 u4 t) (mx3 u0 u2 u4 u6 t) (fdv (((2 * z) * 65536) + t) (2 * t))) (mx3 u1 (mixL u1 u3 t) (mx2 u1 u3 u5 t) (mx3 u1 u3 u5 u7 t) (fdv (((2 * z) * 65536) + t) (2 * t))))))), (qh, .inl (cJ, 8, .inr (.inl (f8 (mx3 u0 (mixL u0 u2 t) (mx2 u0 u2 u4 t) (mx3 u0 u2 u4 u6 t) (fdv (((2 * z) * 65536) + t) (2 * t))) (mx3 u1 (mixL u1 u3 t) (mx2 u1 u3 u5 t) (mx3 u1 u3 u5 u7 t) (fdv (((2 * z) * 65536) + t) (2 * t))) (mx2 (mixL u0 u2 t) (mx2 u0 u2 u4 t) (mx3 u0 u2 u4 u6 t) (fdv (((2 * z) * 65536) + t) (2 * t))) (mx2 (mixL u1 u3 t) (mx2 u1 u3 u5 t) (mx3 u1 u3 u5 u7 t) (fdv (((2 * z) * 65536) + t) (2 * t))) (mixL (mx2 u0 u2 u4 t) (mx3 u0 u2 u4 u6 t) (fdv (((2 * z) * 65536) + t) (2 * t))) (mixL (mx2 u1 u3 u5 t) (mx3 u1 u3 u5 u7 t) (fdv (((2 * z) * 65536) + t) (2 * t))) (mx3 u0 u2 u4 u6 t) (mx3 u1 u3 u5 u7 t))))), (qm, .inl (cJ, 8, .inr (.inl (f8 g0'_22 g1'_23 g2'_24 g3'_25 g4'_26 g5'_27 g6'_28 g7'_29))))] := by rw [← f8_6]; exact hD
    refine lv_iinc (v := 7) (lv' := [(5, .int 7), (0, .ref hm), (1, .long z), (3, .long t)]) hx hb d_M_cut_89 hl (k := 0) rfl (by first | exact nI_add _ 1 | rfl | decide) (by decide) rfl (fun ls hl => ?_)
    refine lv_goto (tgt := 68) hx hb d_M_cut_92 (by decide) ?_
    refine lv_iload hx hb d_M_cut_68 (lv_at hl 0 rfl) ?_
    refine lv_bipush (v := 8) hx hb d_M_cut_70 (by decide) ?_
    refine bn_ge (a1 := 7) (b1 := 8) (tgt := 95) hx hb (by omega) (by omega) d_M_cut_72 (by decide) (fun c_37 => ?_) (fun c_37 => ?_)
    · exact absurd c_37 (by decide)
    refine lv_aload_n hx hb d_M_cut_75 rfl (lv_at hl 1 rfl) ?_
    refine va_get (D := D) (ci := 1) (v := .ref qu) (C := R_M) (T := T_M) (N := 7) hx hb hts (ui_M _) hown hK hP 0 rfl rfl 3 (by decide) (hts _ (gwc gw_531)) (fun _ h9 => h9) rfl d_M_cut_76 ?_
    refine lv_iload hx hb d_M_cut_79 (lv_at hl 0 rfl) ?_
    refine lv_aload_n hx hb d_M_cut_81 rfl (lv_at hl 1 rfl) ?_
    refine va_get (D := D) (ci := 1) (v := .ref qh) (C := R_M) (T := T_M) (N := 7) hx hb hts (ui_M _) hown hK hP 0 rfl rfl 5 (by decide) (hts _ (gwc gw_533)) (fun _ h9 => h9) rfl d_M_cut_82 ?_
    refine lv_iload hx hb d_M_cut_85 (lv_at hl 0 rfl) ?_
    refine ld_l hx hb hK hP 3 2 rfl rfl 7 (by omega) (by omega) d_M_cut_87 ?_
    refine tp_l (mx3 u1 u3 u5 u7 t) (rfl) ?_
    refine st_l hx hb hK hP hD hS 1 2 rfl rfl 7 (by omega) (by omega) d_M_cut_88 (fun H locs hP hD hS => ?_)
    have hP : va_P D cl [(hm, .inr (1, [.ref a, .ref b, .ref qa, .ref qu, .ref qb, .ref qh, .ref qm])), (qu, .inl (cJ, 8, .inr (.inl (f8 (mx3 u0 (mixL u0 u2 t) (mx2 u0 u2 u4 t) (mx3 u0 u2 u4 u6 t) (fdv (((2 * z) * 65536) + t) (2 * t))) (mx3 u1 (mixL u1 u3 t) (mx2 u1 u3 u5 t) (mx3 u1 u3 u5 u7 t) (fdv (((2 * z) * 65536) + t) (2 * t))) (mx2 (mixL u0 u2 t) (mx2 u0 u2 u4 t) (mx3 u0 u2 u4 u6 t) (fdv (((2 * z) * 65536) + t) (2 * t))) (mx2 (mixL u1 u3 t) (mx2 u1 u3 u5 t) (mx3 u1 u3 u5 u7 t) (fdv (((2 * z) * 65536) + t) (2 * t))) (mixL (mx2 u0 u2 u4 t) (mx3 u0 u2 u4 u6 t) (fdv (((2 * z) * 65536) + t) (2 * t))) (mixL (mx2 u1 u3 u5 t) (mx3 u1 u3 u5 u7 t) (fdv (((2 * z) * 65536) + t) (2 * t))) (mx3 u0 u2 u4 u6 t) (mx3 u1 u3 u5 u7 t))))), (qb, .inl (cJ, 8, .inr (.inl (f8 u0 u1 (mixL u0 (mixL u0 u2 t) (fdv (((2 * z) * 65536) + t) (2 * t))) (mixL u1 (mixL u1 u3 t) (fdv (((2 * z) * 65536) + t) (2 * t))) (mx2 u0 (mixL u0 u2 t) (mx2 u0 u2 u4 t) (fdv (((2 * z) * 65536) + t) (2 * t))) (mx2 u1 (mixL u1 u3 t) (mx2 u1 u3 u5 t) (fdv (((2 * z) * 65536) + t) (2 * t))) (mx3 u0 (mixL u0 u2 t) (mx2 u0 u2 u4 t) (mx3 u0 u2 u4 u6 t) (fdv (((2 * z) * 65536) + t) (2 * t))) (mx3 u1 (mixL u1 u3 t) (mx2 u1 u3 u5 t) (mx3 u1 u3 u5 u7 t) (fdv (((2 * z) * 65536) + t) (2 * t))))))), (qh, .inl (cJ, 8, .inr (.inl (f8 (mx3 u0 (mixL u0 u2 t) (mx2 u0 u2 u4 t) (mx3 u0 u2 u4 u6 t) (fdv (((2 * z) * 65536) + t) (2 * t))) (mx3 u1 (mixL u1 u3 t) (mx2 u1 u3 u5 t) (mx3 u1 u3 u5 u7 t) (fdv (((2 * z) * 65536) + t) (2 * t))) (mx2 (mixL u0 u2 t) (mx2 u0 u2 u4 t) (mx3 u0 u2 u4 u6 t) (fdv (((2 * z) * 65536) + t) (2 * t))) (mx2 (mixL u1 u3 t) (mx2 u1 u3 u5 t) (mx3 u1 u3 u5 u7 t) (fdv (((2 * z) * 65536) + t) (2 * t))) (mixL (mx2 u0 u2 u4 t) (mx3 u0 u2 u4 u6 t) (fdv (((2 * z) * 65536) + t) (2 * t))) (mixL (mx2 u1 u3 u5 t) (mx3 u1 u3 u5 u7 t) (fdv (((2 * z) * 65536) + t) (2 * t))) (mx3 u0 u2 u4 u6 t) (mx3 u1 u3 u5 u7 t))))), (qm, .inl (cJ, 8, .inr (.inl (f8 g0'_22 g1'_23 g2'_24 g3'_25 g4'_26 g5'_27 g6'_28 g7'_29))))] H := by rw [← f8_7]; exact hP
    have hD : va_D A [(hm, .inr (1, [.ref a, .ref b, .ref qa, .ref qu, .ref qb, .ref qh, .ref qm])), (qu, .inl (cJ, 8, .inr (.inl (f8 (mx3 u0 (mixL u0 u2 t) (mx2 u0 u2 u4 t) (mx3 u0 u2 u4 u6 t) (fdv (((2 * z) * 65536) + t) (2 * t))) (mx3 u1 (mixL u1 u3 t) (mx2 u1 u3 u5 t) (mx3 u1 u3 u5 u7 t) (fdv (((2 * z) * 65536) + t) (2 * t))) (mx2 (mixL u0 u2 t) (mx2 u0 u2 u4 t) (mx3 u0 u2 u4 u6 t) (fdv (((2 * z) * 65536) + t) (2 * t))) (mx2 (mixL u1 u3 t) (mx2 u1 u3 u5 t) (mx3 u1 u3 u5 u7 t) (fdv (((2 * z) * 65536) + t) (2 * t))) (mixL (mx2 u0 u2 u4 t) (mx3 u0 u2 u4 u6 t) (fdv (((2 * z) * 65536) + t) (2 * t))) (mixL (mx2 u1 u3 u5 t) (mx3 u1 u3 u5 u7 t) (fdv (((2 * z) * 65536) + t) (2 * t))) (mx3 u0 u2 u4 u6 t) (mx3 u1 u3 u5 u7 t))))), (qb, .inl (cJ, 8, .inr (.inl (f8 u0 u1 (mixL u0 (mixL u0 u2 t) (fdv (((2 * z) * 65536) + t) (2 * t))) (mixL u1 (mixL u1 u3 t) (fdv (((2 * z) * 65536) + t) (2 * t))) (mx2 u0 (mixL u0 u2 t) (mx2 u0 u2 u4 t) (fdv (((2 * z) * 65536) + t) (2 * t))) (mx2 u1 (mixL u1 u3 t) (mx2 u1 u3 u5 t) (fdv (((2 * z) * 65536) + t) (2 * t))) (mx3 u0 (mixL u0 u2 t) (mx2 u0 u2 u4 t) (mx3 u0 u2 u4 u6 t) (fdv (((2 * z) * 65536) + t) (2 * t))) (mx3 u1 (mixL u1 u3 t) (mx2 u1 u3 u5 t) (mx3 u1 u3 u5 u7 t) (fdv (((2 * z) * 65536) + t) (2 * t))))))), (qh, .inl (cJ, 8, .inr (.inl (f8 (mx3 u0 (mixL u0 u2 t) (mx2 u0 u2 u4 t) (mx3 u0 u2 u4 u6 t) (fdv (((2 * z) * 65536) + t) (2 * t))) (mx3 u1 (mixL u1 u3 t) (mx2 u1 u3 u5 t) (mx3 u1 u3 u5 u7 t) (fdv (((2 * z) * 65536) + t) (2 * t))) (mx2 (mixL u0 u2 t) (mx2 u0 u2 u4 t) (mx3 u0 u2 u4 u6 t) (fdv (((2 * z) * 65536) + t) (2 * t))) (mx2 (mixL u1 u3 t) (mx2 u1 u3 u5 t) (mx3 u1 u3 u5 u7 t) (fdv (((2 * z) * 65536) + t) (2 * t))) (mixL (mx2 u0 u2 u4 t) (mx3 u0 u2 u4 u6 t) (fdv (((2 * z) * 65536) + t) (2 * t))) (mixL (mx2 u1 u3 u5 t) (mx3 u1 u3 u5 u7 t) (fdv (((2 * z) * 65536) + t) (2 * t))) (mx3 u0 u2 u4 u6 t) (mx3 u1 u3 u5 u7 t))))), (qm, .inl (cJ, 8, .inr (.inl (f8 g0'_22 g1'_23 g2'_24 g3'_25 g4'_26 g5'_27 g6'_28 g7'_29))))] := by rw [← f8_7]; exact hD
    refine lv_iinc (v := 8) (lv' := [(5, .int 8), (0, .ref hm), (1, .long z), (3, .long t)]) hx hb d_M_cut_89 hl (k := 0) rfl (by first | exact nI_add _ 1 | rfl | decide) (by decide) rfl (fun ls hl => ?_)
    refine lv_goto (tgt := 68) hx hb d_M_cut_92 (by decide) ?_
    refine lv_iload hx hb d_M_cut_68 (lv_at hl 0 rfl) ?_
    refine lv_bipush (v := 8) hx hb d_M_cut_70 (by decide) ?_
    refine bn_ge (a1 := 8) (b1 := 8) (tgt := 95) hx hb (by omega) (by omega) d_M_cut_72 (by decide) (fun c_38 => ?_) (fun c_38 => ?_)
    rotate_left
    · exact absurd c_38 (by decide)
    exact ct_retv hQ hx hb hr hlocks hP hD hS (mx3 u0 (mixL u0 u2 t) (mx2 u0 u2 u4 t) (mx3 u0 u2 u4 u6 t) (fdv (((2 * z) * 65536) + t) (2 * t)), mx3 u1 (mixL u1 u3 t) (mx2 u1 u3 u5 t) (mx3 u1 u3 u5 u7 t) (fdv (((2 * z) * 65536) + t) (2 * t)), mx2 (mixL u0 u2 t) (mx2 u0 u2 u4 t) (mx3 u0 u2 u4 u6 t) (fdv (((2 * z) * 65536) + t) (2 * t)), mx2 (mixL u1 u3 t) (mx2 u1 u3 u5 t) (mx3 u1 u3 u5 u7 t) (fdv (((2 * z) * 65536) + t) (2 * t)), mixL (mx2 u0 u2 u4 t) (mx3 u0 u2 u4 u6 t) (fdv (((2 * z) * 65536) + t) (2 * t)), mixL (mx2 u1 u3 u5 t) (mx3 u1 u3 u5 u7 t) (fdv (((2 * z) * 65536) + t) (2 * t)), mx3 u0 u2 u4 u6 t, mx3 u1 u3 u5 u7 t, u0, u1, mixL u0 (mixL u0 u2 t) (fdv (((2 * z) * 65536) + t) (2 * t)), mixL u1 (mixL u1 u3 t) (fdv (((2 * z) * 65536) + t) (2 * t)), mx2 u0 (mixL u0 u2 t) (mx2 u0 u2 u4 t) (fdv (((2 * z) * 65536) + t) (2 * t)), mx2 u1 (mixL u1 u3 t) (mx2 u1 u3 u5 t) (fdv (((2 * z) * 65536) + t) (2 * t)), mx3 u0 (mixL u0 u2 t) (mx2 u0 u2 u4 t) (mx3 u0 u2 u4 u6 t) (fdv (((2 * z) * 65536) + t) (2 * t)), mx3 u1 (mixL u1 u3 t) (mx2 u1 u3 u5 t) (mx3 u1 u3 u5 u7 t) (fdv (((2 * z) * 65536) + t) (2 * t)), mx3 u0 (mixL u0 u2 t) (mx2 u0 u2 u4 t) (mx3 u0 u2 u4 u6 t) (fdv (((2 * z) * 65536) + t) (2 * t)), mx3 u1 (mixL u1 u3 t) (mx2 u1 u3 u5 t) (mx3 u1 u3 u5 u7 t) (fdv (((2 * z) * 65536) + t) (2 * t)), mx2 (mixL u0 u2 t) (mx2 u0 u2 u4 t) (mx3 u0 u2 u4 u6 t) (fdv (((2 * z) * 65536) + t) (2 * t)), mx2 (mixL u1 u3 t) (mx2 u1 u3 u5 t) (mx3 u1 u3 u5 u7 t) (fdv (((2 * z) * 65536) + t) (2 * t)), mixL (mx2 u0 u2 u4 t) (mx3 u0 u2 u4 u6 t) (fdv (((2 * z) * 65536) + t) (2 * t)), mixL (mx2 u1 u3 u5 t) (mx3 u1 u3 u5 u7 t) (fdv (((2 * z) * 65536) + t) (2 * t)), mx3 u0 u2 u4 u6 t, mx3 u1 u3 u5 u7 t, g0'_22, g1'_23, g2'_24, g3'_25, g4'_26, g5'_27, g6'_28, g7'_29) [(hm, .inr (1, [.ref a, .ref b, .ref qa, .ref qu, .ref qb, .ref qh, .ref qm])), (qu, .inl (cJ, 8, .inr (.inl (f8 (mx3 u0 (mixL u0 u2 t) (mx2 u0 u2 u4 t) (mx3 u0 u2 u4 u6 t) (fdv (((2 * z) * 65536) + t) (2 * t))) (mx3 u1 (mixL u1 u3 t) (mx2 u1 u3 u5 t) (mx3 u1 u3 u5 u7 t) (fdv (((2 * z) * 65536) + t) (2 * t))) (mx2 (mixL u0 u2 t) (mx2 u0 u2 u4 t) (mx3 u0 u2 u4 u6 t) (fdv (((2 * z) * 65536) + t) (2 * t))) (mx2 (mixL u1 u3 t) (mx2 u1 u3 u5 t) (mx3 u1 u3 u5 u7 t) (fdv (((2 * z) * 65536) + t) (2 * t))) (mixL (mx2 u0 u2 u4 t) (mx3 u0 u2 u4 u6 t) (fdv (((2 * z) * 65536) + t) (2 * t))) (mixL (mx2 u1 u3 u5 t) (mx3 u1 u3 u5 u7 t) (fdv (((2 * z) * 65536) + t) (2 * t))) (mx3 u0 u2 u4 u6 t) (mx3 u1 u3 u5 u7 t))))), (qb, .inl (cJ, 8, .inr (.inl (f8 u0 u1 (mixL u0 (mixL u0 u2 t) (fdv (((2 * z) * 65536) + t) (2 * t))) (mixL u1 (mixL u1 u3 t) (fdv (((2 * z) * 65536) + t) (2 * t))) (mx2 u0 (mixL u0 u2 t) (mx2 u0 u2 u4 t) (fdv (((2 * z) * 65536) + t) (2 * t))) (mx2 u1 (mixL u1 u3 t) (mx2 u1 u3 u5 t) (fdv (((2 * z) * 65536) + t) (2 * t))) (mx3 u0 (mixL u0 u2 t) (mx2 u0 u2 u4 t) (mx3 u0 u2 u4 u6 t) (fdv (((2 * z) * 65536) + t) (2 * t))) (mx3 u1 (mixL u1 u3 t) (mx2 u1 u3 u5 t) (mx3 u1 u3 u5 u7 t) (fdv (((2 * z) * 65536) + t) (2 * t))))))), (qh, .inl (cJ, 8, .inr (.inl (f8 (mx3 u0 (mixL u0 u2 t) (mx2 u0 u2 u4 t) (mx3 u0 u2 u4 u6 t) (fdv (((2 * z) * 65536) + t) (2 * t))) (mx3 u1 (mixL u1 u3 t) (mx2 u1 u3 u5 t) (mx3 u1 u3 u5 u7 t) (fdv (((2 * z) * 65536) + t) (2 * t))) (mx2 (mixL u0 u2 t) (mx2 u0 u2 u4 t) (mx3 u0 u2 u4 u6 t) (fdv (((2 * z) * 65536) + t) (2 * t))) (mx2 (mixL u1 u3 t) (mx2 u1 u3 u5 t) (mx3 u1 u3 u5 u7 t) (fdv (((2 * z) * 65536) + t) (2 * t))) (mixL (mx2 u0 u2 u4 t) (mx3 u0 u2 u4 u6 t) (fdv (((2 * z) * 65536) + t) (2 * t))) (mixL (mx2 u1 u3 u5 t) (mx3 u1 u3 u5 u7 t) (fdv (((2 * z) * 65536) + t) (2 * t))) (mx3 u0 u2 u4 u6 t) (mx3 u1 u3 u5 u7 t))))), (qm, .inl (cJ, 8, .inr (.inl (f8 g0'_22 g1'_23 g2'_24 g3'_25 g4'_26 g5'_27 g6'_28 g7'_29))))] [0, 1, 2, 3, 4] (rfl) (by rw [cut8, if_neg c_19]; rfl) (rfl) rfl rfl (by omega) (by omega) d_M_cut_95
  · skip
    exact ct_retv hQ hx hb hr hlocks hP hD hS (u0, u1, mixL u0 u2 t, mixL u1 u3 t, mx2 u0 u2 u4 t, mx2 u1 u3 u5 t, mx3 u0 u2 u4 u6 t, mx3 u1 u3 u5 u7 t, u0, u1, mixL u0 u2 t, mixL u1 u3 t, mx2 u0 u2 u4 t, mx2 u1 u3 u5 t, mx3 u0 u2 u4 u6 t, mx3 u1 u3 u5 u7 t, mx3 u0 u2 u4 u6 t, mx3 u1 u3 u5 u7 t, mx2 u2 u4 u6 t, mx2 u3 u5 u7 t, mixL u4 u6 t, mixL u5 u7 t, u6, u7, g0'_2, g1'_3, g2'_4, g3'_5, g4'_6, g5'_7, g6'_8, g7'_9) [(hm, .inr (1, [.ref a, .ref b, .ref qa, .ref qu, .ref qb, .ref qh, .ref qm])), (qu, .inl (cJ, 8, .inr (.inl (f8 u0 u1 (mixL u0 u2 t) (mixL u1 u3 t) (mx2 u0 u2 u4 t) (mx2 u1 u3 u5 t) (mx3 u0 u2 u4 u6 t) (mx3 u1 u3 u5 u7 t))))), (qb, .inl (cJ, 8, .inr (.inl (f8 u0 u1 (mixL u0 u2 t) (mixL u1 u3 t) (mx2 u0 u2 u4 t) (mx2 u1 u3 u5 t) (mx3 u0 u2 u4 u6 t) (mx3 u1 u3 u5 u7 t))))), (qh, .inl (cJ, 8, .inr (.inl (f8 (mx3 u0 u2 u4 u6 t) (mx3 u1 u3 u5 u7 t) (mx2 u2 u4 u6 t) (mx2 u3 u5 u7 t) (mixL u4 u6 t) (mixL u5 u7 t) u6 u7)))), (qm, .inl (cJ, 8, .inr (.inl (f8 g0'_2 g1'_3 g2'_4 g3'_5 g4'_6 g5'_7 g6'_8 g7'_9))))] [0, 1, 2, 3, 4] (rfl) (by rw [cut8, if_pos c_19]; rfl) (rfl) rfl rfl (by omega) (by omega) d_M_cut_41
set_option maxHeartbeats 4000000 in
set_option maxRecDepth 100000 in
/-- around -/
theorem c_M_around0 (l : Launch) (D : va_G) (cI cB cJ : ClassId) (qQ : Nat) (hm : Nat) (a : Nat) (b : Nat) (qa : Nat) (qu : Nat) (qb : Nat) (qh : Nat) (qm : Nat) (ax0 : Int64) (ax1 : Int64) (ax2 : Int64) (ax3 : Int64) (mid : Int64) (a_ : Int64) (b_ : Int64)  : ct l D cl [(cI, .int), (cB, .byte), (cJ, .long)] (amb qQ) y_M_around w_M_around 1 25 (0) (0) [.ref hm, .long mid, .long a_, .long b_, .int 0] [(hm, .inr (1, [.ref a, .ref b, .ref qa, .ref qu, .ref qb, .ref qh, .ref qm])), (qa, .inl (cJ, 4, .inr (.inl (f4 ax0 ax1 ax2 ax3))))] (fun _ : Unit => True) (fun _ : Unit => some (.long (aro mid a_ b_ ax0 ax2))) (fun _ : Unit => [(hm, .inr (1, [.ref a, .ref b, .ref qa, .ref qu, .ref qb, .ref qh, .ref qm])), (qa, .inl (cJ, 4, .inr (.inl (f4 ax0 ax1 ax2 ax3))))]) := by
  refine ct_ofW (cc := b_M_around) (maxL := 8) (ret := (some .long)) (by decide) rfl (Nat.le_of_ble_eq_true rfl) ?_
  intro p e R s m args below meth c A Q ls hx hb hr hml hts hown hlocks hname hRf hRc hRs hRl hQ hK hP hD hS hA hM hl
  have hl : lv_has ls 8 [(0, .ref hm), (1, .long mid), (3, .long a_), (5, .long b_), (7, .int 0)] := hl
  refine lv_lload_n hx hb d_M_around_0 rfl (lv_at hl 1 rfl) ?_
  refine lv_lload_n hx hb d_M_around_1 rfl (lv_at hl 2 rfl) ?_
  refine lv_aload_n hx hb d_M_around_2 rfl (lv_at hl 0 rfl) ?_
  refine va_get (D := D) (ci := 1) (v := .ref qa) (C := R_M) (T := T_M) (N := 7) hx hb hts (ui_M _) hown hK hP 0 rfl rfl 2 (by decide) (hts _ (gwc gw_530)) (fun _ h9 => h9) rfl d_M_around_3 ?_
  refine lv_iload hx hb d_M_around_6 (lv_at hl 4 rfl) ?_
  refine ld_l hx hb hK hP 1 2 rfl rfl 0 (by omega) (by omega) d_M_around_8 ?_
  refine tp_l (ax0) (rfl) ?_
  refine lv_lmul hx hb d_M_around_9 ?_
  refine lv_lload hx hb d_M_around_10 (lv_at hl 3 rfl) ?_
  refine lv_aload_n hx hb d_M_around_12 rfl (lv_at hl 0 rfl) ?_
  refine va_get (D := D) (ci := 1) (v := .ref qa) (C := R_M) (T := T_M) (N := 7) hx hb hts (ui_M _) hown hK hP 0 rfl rfl 2 (by decide) (hts _ (gwc gw_530)) (fun _ h9 => h9) rfl d_M_around_13 ?_
  refine lv_iconst (v := 2) hx hb d_M_around_16 (by decide) ?_
  refine lv_iload hx hb d_M_around_17 (lv_at hl 4 rfl) ?_
  refine lv_iadd hx hb d_M_around_19 ?_
  refine tp_i (2) (by decide) ?_
  refine ld_l hx hb hK hP 1 2 rfl rfl 2 (by omega) (by omega) d_M_around_20 ?_
  refine tp_l (ax2) (rfl) ?_
  refine lv_lmul hx hb d_M_around_21 ?_
  refine lv_ladd hx hb d_M_around_22 ?_
  refine lv_ldc2 (v := 32768) hx hb hown (hts _ (gwc gw_672)) d_M_around_23 ?_
  refine lv_ladd hx hb d_M_around_26 ?_
  refine lv_ldc2 (v := 65536) hx hb hown (hts _ (gwc gw_654)) d_M_around_27 ?_
  refine ct_callS (av := [.long (((a_ * ax0) + (b_ * ax2)) + 32768), .long 65536]) (rest := [.long mid]) (wr := [(hm, .inr (1, [.ref a, .ref b, .ref qa, .ref qu, .ref qb, .ref qh, .ref qm])), (qa, .inl (cJ, 4, .inr (.inl (f4 ax0 ax1 ax2 ax3))))]) (n := 2) (c_floorDiv l D cI cB cJ qQ (((a_ * ax0) + (b_ * ax2)) + 32768) 65536 (by decide)) hx hb hml hown hts (amb_ok qQ) hK hP hD hS hA hM (gi_S gw_635 gw_290 gw_35 gw_291) rfl (by decide +kernel) ⟨by omega, by omega⟩ [] [0, 1] rfl rfl rfl rfl (by decide) rfl hl.1 rfl (Nat.le_of_ble_eq_true rfl) d_M_around_30 ⟨by omega, by omega⟩ (fun u_1 H locs hok hP hD hS => ?_)
  have hP : va_P D cl [(hm, .inr (1, [.ref a, .ref b, .ref qa, .ref qu, .ref qb, .ref qh, .ref qm])), (qa, .inl (cJ, 4, .inr (.inl (f4 ax0 ax1 ax2 ax3))))] H := hP
  have hD : va_D A [(hm, .inr (1, [.ref a, .ref b, .ref qa, .ref qu, .ref qb, .ref qh, .ref qm])), (qa, .inl (cJ, 4, .inr (.inl (f4 ax0 ax1 ax2 ax3))))] := hD
  refine W.eq (g2 := F0 m 33 ls [.long (fdv (((a_ * ax0) + (b_ * ax2)) + 32768) 65536), .long mid]) rfl ?_
  refine lv_ladd hx hb d_M_around_33 ?_
  exact ct_retl hQ hx hb hr hlocks hP hD hS () [(hm, .inr (1, [.ref a, .ref b, .ref qa, .ref qu, .ref qb, .ref qh, .ref qm])), (qa, .inl (cJ, 4, .inr (.inl (f4 ax0 ax1 ax2 ax3))))] [0, 1] (rfl) (trivial) (rfl) rfl rfl (by omega) (by omega) d_M_around_34
set_option maxHeartbeats 4000000 in
set_option maxRecDepth 100000 in
/-- around -/
theorem c_M_around1 (l : Launch) (D : va_G) (cI cB cJ : ClassId) (qQ : Nat) (hm : Nat) (a : Nat) (b : Nat) (qa : Nat) (qu : Nat) (qb : Nat) (qh : Nat) (qm : Nat) (ax0 : Int64) (ax1 : Int64) (ax2 : Int64) (ax3 : Int64) (mid : Int64) (a_ : Int64) (b_ : Int64)  : ct l D cl [(cI, .int), (cB, .byte), (cJ, .long)] (amb qQ) y_M_around w_M_around 1 25 (0) (0) [.ref hm, .long mid, .long a_, .long b_, .int 1] [(hm, .inr (1, [.ref a, .ref b, .ref qa, .ref qu, .ref qb, .ref qh, .ref qm])), (qa, .inl (cJ, 4, .inr (.inl (f4 ax0 ax1 ax2 ax3))))] (fun _ : Unit => True) (fun _ : Unit => some (.long (aro mid a_ b_ ax1 ax3))) (fun _ : Unit => [(hm, .inr (1, [.ref a, .ref b, .ref qa, .ref qu, .ref qb, .ref qh, .ref qm])), (qa, .inl (cJ, 4, .inr (.inl (f4 ax0 ax1 ax2 ax3))))]) := by
  refine ct_ofW (cc := b_M_around) (maxL := 8) (ret := (some .long)) (by decide) rfl (Nat.le_of_ble_eq_true rfl) ?_
  intro p e R s m args below meth c A Q ls hx hb hr hml hts hown hlocks hname hRf hRc hRs hRl hQ hK hP hD hS hA hM hl
  have hl : lv_has ls 8 [(0, .ref hm), (1, .long mid), (3, .long a_), (5, .long b_), (7, .int 1)] := hl
  refine lv_lload_n hx hb d_M_around_0 rfl (lv_at hl 1 rfl) ?_
  refine lv_lload_n hx hb d_M_around_1 rfl (lv_at hl 2 rfl) ?_
  refine lv_aload_n hx hb d_M_around_2 rfl (lv_at hl 0 rfl) ?_
  refine va_get (D := D) (ci := 1) (v := .ref qa) (C := R_M) (T := T_M) (N := 7) hx hb hts (ui_M _) hown hK hP 0 rfl rfl 2 (by decide) (hts _ (gwc gw_530)) (fun _ h9 => h9) rfl d_M_around_3 ?_
  refine lv_iload hx hb d_M_around_6 (lv_at hl 4 rfl) ?_
  refine ld_l hx hb hK hP 1 2 rfl rfl 1 (by omega) (by omega) d_M_around_8 ?_
  refine tp_l (ax1) (rfl) ?_
  refine lv_lmul hx hb d_M_around_9 ?_
  refine lv_lload hx hb d_M_around_10 (lv_at hl 3 rfl) ?_
  refine lv_aload_n hx hb d_M_around_12 rfl (lv_at hl 0 rfl) ?_
  refine va_get (D := D) (ci := 1) (v := .ref qa) (C := R_M) (T := T_M) (N := 7) hx hb hts (ui_M _) hown hK hP 0 rfl rfl 2 (by decide) (hts _ (gwc gw_530)) (fun _ h9 => h9) rfl d_M_around_13 ?_
  refine lv_iconst (v := 2) hx hb d_M_around_16 (by decide) ?_
  refine lv_iload hx hb d_M_around_17 (lv_at hl 4 rfl) ?_
  refine lv_iadd hx hb d_M_around_19 ?_
  refine tp_i (3) (by decide) ?_
  refine ld_l hx hb hK hP 1 2 rfl rfl 3 (by omega) (by omega) d_M_around_20 ?_
  refine tp_l (ax3) (rfl) ?_
  refine lv_lmul hx hb d_M_around_21 ?_
  refine lv_ladd hx hb d_M_around_22 ?_
  refine lv_ldc2 (v := 32768) hx hb hown (hts _ (gwc gw_672)) d_M_around_23 ?_
  refine lv_ladd hx hb d_M_around_26 ?_
  refine lv_ldc2 (v := 65536) hx hb hown (hts _ (gwc gw_654)) d_M_around_27 ?_
  refine ct_callS (av := [.long (((a_ * ax1) + (b_ * ax3)) + 32768), .long 65536]) (rest := [.long mid]) (wr := [(hm, .inr (1, [.ref a, .ref b, .ref qa, .ref qu, .ref qb, .ref qh, .ref qm])), (qa, .inl (cJ, 4, .inr (.inl (f4 ax0 ax1 ax2 ax3))))]) (n := 2) (c_floorDiv l D cI cB cJ qQ (((a_ * ax1) + (b_ * ax3)) + 32768) 65536 (by decide)) hx hb hml hown hts (amb_ok qQ) hK hP hD hS hA hM (gi_S gw_635 gw_290 gw_35 gw_291) rfl (by decide +kernel) ⟨by omega, by omega⟩ [] [0, 1] rfl rfl rfl rfl (by decide) rfl hl.1 rfl (Nat.le_of_ble_eq_true rfl) d_M_around_30 ⟨by omega, by omega⟩ (fun u_1 H locs hok hP hD hS => ?_)
  have hP : va_P D cl [(hm, .inr (1, [.ref a, .ref b, .ref qa, .ref qu, .ref qb, .ref qh, .ref qm])), (qa, .inl (cJ, 4, .inr (.inl (f4 ax0 ax1 ax2 ax3))))] H := hP
  have hD : va_D A [(hm, .inr (1, [.ref a, .ref b, .ref qa, .ref qu, .ref qb, .ref qh, .ref qm])), (qa, .inl (cJ, 4, .inr (.inl (f4 ax0 ax1 ax2 ax3))))] := hD
  refine W.eq (g2 := F0 m 33 ls [.long (fdv (((a_ * ax1) + (b_ * ax3)) + 32768) 65536), .long mid]) rfl ?_
  refine lv_ladd hx hb d_M_around_33 ?_
  exact ct_retl hQ hx hb hr hlocks hP hD hS () [(hm, .inr (1, [.ref a, .ref b, .ref qa, .ref qu, .ref qb, .ref qh, .ref qm])), (qa, .inl (cJ, 4, .inr (.inl (f4 ax0 ax1 ax2 ax3))))] [0, 1] (rfl) (trivial) (rfl) rfl rfl (by omega) (by omega) d_M_around_34
end
