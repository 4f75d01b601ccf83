section
-- ===== PART A: goes FIRST, ahead of the names: the tables' words, and 'selects' of the private methods out of them =====
/-- a private method of a class that the tables say can be made, by its rows of tables_1 -/
def lw_okq (q : MethodName × Nat) : Prop := (q.1.cls ≠ "java/lang/invoke/MethodHandle" ∧ q.1.cls ≠ "java/lang/invoke/VarHandle") ∧ Cond.instantiable q.1.cls q.2 ∈ tables_1 ∧ Cond.privateMethod q.1 ∈ tables_1 ∧ Cond.instanceMethod q.1 ∈ tables_1
theorem lw_p0 : lw_okq (⟨"CurvePaths$Path", "addPart", "(II)V"⟩, 7) := ⟨⟨by decide +kernel, by decide +kernel⟩, List.mem_of_getElem? (i := 77) (by decide +kernel), List.mem_of_getElem? (i := 158) (by decide +kernel), List.mem_of_getElem? (i := 159) (by decide +kernel)⟩
theorem lw_p1 : lw_okq (⟨"CurvePaths$Path", "addPoint", "(II)V"⟩, 7) := ⟨⟨by decide +kernel, by decide +kernel⟩, List.mem_of_getElem? (i := 77) (by decide +kernel), List.mem_of_getElem? (i := 185) (by decide +kernel), List.mem_of_getElem? (i := 186) (by decide +kernel)⟩
theorem lw_p2 : lw_okq (⟨"CurvePaths$Arc", "takePart", "(JII)V"⟩, 5) := ⟨⟨by decide +kernel, by decide +kernel⟩, List.mem_of_getElem? (i := 39) (by decide +kernel), List.mem_of_getElem? (i := 272) (by decide +kernel), List.mem_of_getElem? (i := 273) (by decide +kernel)⟩
theorem lw_p3 : lw_okq (⟨"CurvePaths$Arc", "takeQuarter", "(J)V"⟩, 5) := ⟨⟨by decide +kernel, by decide +kernel⟩, List.mem_of_getElem? (i := 39) (by decide +kernel), List.mem_of_getElem? (i := 276) (by decide +kernel), List.mem_of_getElem? (i := 277) (by decide +kernel)⟩
theorem lw_p4 : lw_okq (⟨"CurvePaths$Arc", "turnQuarter", "()V"⟩, 5) := ⟨⟨by decide +kernel, by decide +kernel⟩, List.mem_of_getElem? (i := 39) (by decide +kernel), List.mem_of_getElem? (i := 284) (by decide +kernel), List.mem_of_getElem? (i := 285) (by decide +kernel)⟩
theorem lw_p5 : lw_okq (⟨"CurvePaths$Arc", "keepBefore", "(I)V"⟩, 5) := ⟨⟨by decide +kernel, by decide +kernel⟩, List.mem_of_getElem? (i := 39) (by decide +kernel), List.mem_of_getElem? (i := 288) (by decide +kernel), List.mem_of_getElem? (i := 289) (by decide +kernel)⟩
theorem lw_p6 : lw_okq (⟨"CurvePaths$Arc", "keepBehind", "(I)V"⟩, 5) := ⟨⟨by decide +kernel, by decide +kernel⟩, List.mem_of_getElem? (i := 39) (by decide +kernel), List.mem_of_getElem? (i := 298) (by decide +kernel), List.mem_of_getElem? (i := 299) (by decide +kernel)⟩
theorem lw_p7 : lw_okq (⟨"CurvePaths$Arc", "addTaken", "()V"⟩, 5) := ⟨⟨by decide +kernel, by decide +kernel⟩, List.mem_of_getElem? (i := 39) (by decide +kernel), List.mem_of_getElem? (i := 302) (by decide +kernel), List.mem_of_getElem? (i := 303) (by decide +kernel)⟩
theorem lw_p8 : lw_okq (⟨"CurvePaths$Arc", "addPoint", "(II)V"⟩, 5) := ⟨⟨by decide +kernel, by decide +kernel⟩, List.mem_of_getElem? (i := 39) (by decide +kernel), List.mem_of_getElem? (i := 306) (by decide +kernel), List.mem_of_getElem? (i := 307) (by decide +kernel)⟩
theorem lw_p9 : lw_okq (⟨"CurvePaths", "addSweep", "()I"⟩, 5) := ⟨⟨by decide +kernel, by decide +kernel⟩, List.mem_of_getElem? (i := 12) (by decide +kernel), List.mem_of_getElem? (i := 331) (by decide +kernel), List.mem_of_getElem? (i := 332) (by decide +kernel)⟩
theorem lw_p10 : lw_okq (⟨"CurvePaths$Path", "turnSubpath", "(II)V"⟩, 7) := ⟨⟨by decide +kernel, by decide +kernel⟩, List.mem_of_getElem? (i := 77) (by decide +kernel), List.mem_of_getElem? (i := 362) (by decide +kernel), List.mem_of_getElem? (i := 363) (by decide +kernel)⟩
theorem lw_p11 : lw_okq (⟨"CurvePaths", "addFlattened", "(II)Z"⟩, 5) := ⟨⟨by decide +kernel, by decide +kernel⟩, List.mem_of_getElem? (i := 12) (by decide +kernel), List.mem_of_getElem? (i := 380) (by decide +kernel), List.mem_of_getElem? (i := 381) (by decide +kernel)⟩
theorem lw_p12 : lw_okq (⟨"CurvePaths$Halving", "isFlat", "(II)Z"⟩, 2) := ⟨⟨by decide +kernel, by decide +kernel⟩, List.mem_of_getElem? (i := 64) (by decide +kernel), List.mem_of_getElem? (i := 393) (by decide +kernel), List.mem_of_getElem? (i := 394) (by decide +kernel)⟩
theorem lw_p13 : lw_okq (⟨"CurvePaths$Halving", "isFlatAlong", "(II)Z"⟩, 2) := ⟨⟨by decide +kernel, by decide +kernel⟩, List.mem_of_getElem? (i := 64) (by decide +kernel), List.mem_of_getElem? (i := 397) (by decide +kernel), List.mem_of_getElem? (i := 398) (by decide +kernel)⟩
theorem lw_p14 : lw_okq (⟨"CurvePaths$Halving", "isStraight", "(II)Z"⟩, 2) := ⟨⟨by decide +kernel, by decide +kernel⟩, List.mem_of_getElem? (i := 64) (by decide +kernel), List.mem_of_getElem? (i := 401) (by decide +kernel), List.mem_of_getElem? (i := 402) (by decide +kernel)⟩
theorem lw_p15 : lw_okq (⟨"CurvePaths$Halving", "halve", "(I)V"⟩, 2) := ⟨⟨by decide +kernel, by decide +kernel⟩, List.mem_of_getElem? (i := 64) (by decide +kernel), List.mem_of_getElem? (i := 408) (by decide +kernel), List.mem_of_getElem? (i := 409) (by decide +kernel)⟩
def lw_privs_1 : List (MethodName × Nat) := [(⟨"CurvePaths$Path", "addPart", "(II)V"⟩, 7), (⟨"CurvePaths$Path", "addPoint", "(II)V"⟩, 7), (⟨"CurvePaths$Arc", "takePart", "(JII)V"⟩, 5), (⟨"CurvePaths$Arc", "takeQuarter", "(J)V"⟩, 5), (⟨"CurvePaths$Arc", "turnQuarter", "()V"⟩, 5), (⟨"CurvePaths$Arc", "keepBefore", "(I)V"⟩, 5), (⟨"CurvePaths$Arc", "keepBehind", "(I)V"⟩, 5), (⟨"CurvePaths$Arc", "addTaken", "()V"⟩, 5), (⟨"CurvePaths$Arc", "addPoint", "(II)V"⟩, 5), (⟨"CurvePaths", "addSweep", "()I"⟩, 5), (⟨"CurvePaths$Path", "turnSubpath", "(II)V"⟩, 7), (⟨"CurvePaths", "addFlattened", "(II)Z"⟩, 5), (⟨"CurvePaths$Halving", "isFlat", "(II)Z"⟩, 2), (⟨"CurvePaths$Halving", "isFlatAlong", "(II)Z"⟩, 2), (⟨"CurvePaths$Halving", "isStraight", "(II)Z"⟩, 2), (⟨"CurvePaths$Halving", "halve", "(I)V"⟩, 2)]
theorem lw_r1 : ∀ q ∈ lw_privs_1, lw_okq q := List.forall_mem_cons.mpr ⟨lw_p0, List.forall_mem_cons.mpr ⟨lw_p1, List.forall_mem_cons.mpr ⟨lw_p2, List.forall_mem_cons.mpr ⟨lw_p3, List.forall_mem_cons.mpr ⟨lw_p4, List.forall_mem_cons.mpr ⟨lw_p5, List.forall_mem_cons.mpr ⟨lw_p6, List.forall_mem_cons.mpr ⟨lw_p7, List.forall_mem_cons.mpr ⟨lw_p8, List.forall_mem_cons.mpr ⟨lw_p9, List.forall_mem_cons.mpr ⟨lw_p10, List.forall_mem_cons.mpr ⟨lw_p11, List.forall_mem_cons.mpr ⟨lw_p12, List.forall_mem_cons.mpr ⟨lw_p13, List.forall_mem_cons.mpr ⟨lw_p14, List.forall_mem_cons.mpr ⟨lw_p15, fun _ h => absurd h List.not_mem_nil⟩⟩⟩⟩⟩⟩⟩⟩⟩⟩⟩⟩⟩⟩⟩⟩
theorem lw_p16 : lw_okq (⟨"CurvePaths$Halving", "halveAlong", "(I)V"⟩, 2) := ⟨⟨by decide +kernel, by decide +kernel⟩, List.mem_of_getElem? (i := 64) (by decide +kernel), List.mem_of_getElem? (i := 412) (by decide +kernel), List.mem_of_getElem? (i := 413) (by decide +kernel)⟩
theorem lw_p17 : lw_okq (⟨"CurvePaths$Halving", "setPiece", "(IIIII)V"⟩, 2) := ⟨⟨by decide +kernel, by decide +kernel⟩, List.mem_of_getElem? (i := 64) (by decide +kernel), List.mem_of_getElem? (i := 416) (by decide +kernel), List.mem_of_getElem? (i := 417) (by decide +kernel)⟩
theorem lw_p18 : lw_okq (⟨"CurvePathsModel", "settle", "()I"⟩, 7) := ⟨⟨by decide +kernel, by decide +kernel⟩, List.mem_of_getElem? (i := 469) (by decide +kernel), List.mem_of_getElem? (i := 566) (by decide +kernel), List.mem_of_getElem? (i := 567) (by decide +kernel)⟩
theorem lw_p19 : lw_okq (⟨"CurvePathsModel", "addArc", "(JJJJZ)V"⟩, 7) := ⟨⟨by decide +kernel, by decide +kernel⟩, List.mem_of_getElem? (i := 469) (by decide +kernel), List.mem_of_getElem? (i := 611) (by decide +kernel), List.mem_of_getElem? (i := 612) (by decide +kernel)⟩
theorem lw_p20 : lw_okq (⟨"CurvePathsModel", "quarter", "(J)V"⟩, 7) := ⟨⟨by decide +kernel, by decide +kernel⟩, List.mem_of_getElem? (i := 469) (by decide +kernel), List.mem_of_getElem? (i := 629) (by decide +kernel), List.mem_of_getElem? (i := 630) (by decide +kernel)⟩
theorem lw_p21 : lw_okq (⟨"CurvePathsModel", "cut", "(JJ)V"⟩, 7) := ⟨⟨by decide +kernel, by decide +kernel⟩, List.mem_of_getElem? (i := 469) (by decide +kernel), List.mem_of_getElem? (i := 635) (by decide +kernel), List.mem_of_getElem? (i := 636) (by decide +kernel)⟩
theorem lw_p22 : lw_okq (⟨"CurvePathsModel", "part", "(J)V"⟩, 7) := ⟨⟨by decide +kernel, by decide +kernel⟩, List.mem_of_getElem? (i := 469) (by decide +kernel), List.mem_of_getElem? (i := 639) (by decide +kernel), List.mem_of_getElem? (i := 640) (by decide +kernel)⟩
theorem lw_p23 : lw_okq (⟨"CurvePathsModel", "beginArc", "(JJJJ)V"⟩, 7) := ⟨⟨by decide +kernel, by decide +kernel⟩, List.mem_of_getElem? (i := 469) (by decide +kernel), List.mem_of_getElem? (i := 648) (by decide +kernel), List.mem_of_getElem? (i := 649) (by decide +kernel)⟩
theorem lw_p24 : lw_okq (⟨"CurvePathsModel", "around", "(JJJI)J"⟩, 7) := ⟨⟨by decide +kernel, by decide +kernel⟩, List.mem_of_getElem? (i := 469) (by decide +kernel), List.mem_of_getElem? (i := 652) (by decide +kernel), List.mem_of_getElem? (i := 653) (by decide +kernel)⟩
theorem lw_p25 : lw_okq (⟨"CurvePathsModel", "addCurve", "(JJZ)V"⟩, 7) := ⟨⟨by decide +kernel, by decide +kernel⟩, List.mem_of_getElem? (i := 469) (by decide +kernel), List.mem_of_getElem? (i := 656) (by decide +kernel), List.mem_of_getElem? (i := 657) (by decide +kernel)⟩
theorem lw_p26 : lw_okq (⟨"CurvePathsModel", "turn", "(II)V"⟩, 7) := ⟨⟨by decide +kernel, by decide +kernel⟩, List.mem_of_getElem? (i := 469) (by decide +kernel), List.mem_of_getElem? (i := 668) (by decide +kernel), List.mem_of_getElem? (i := 669) (by decide +kernel)⟩
def lw_privs_2 : List (MethodName × Nat) := [(⟨"CurvePaths$Halving", "halveAlong", "(I)V"⟩, 2), (⟨"CurvePaths$Halving", "setPiece", "(IIIII)V"⟩, 2), (⟨"CurvePathsModel", "settle", "()I"⟩, 7), (⟨"CurvePathsModel", "addArc", "(JJJJZ)V"⟩, 7), (⟨"CurvePathsModel", "quarter", "(J)V"⟩, 7), (⟨"CurvePathsModel", "cut", "(JJ)V"⟩, 7), (⟨"CurvePathsModel", "part", "(J)V"⟩, 7), (⟨"CurvePathsModel", "beginArc", "(JJJJ)V"⟩, 7), (⟨"CurvePathsModel", "around", "(JJJI)J"⟩, 7), (⟨"CurvePathsModel", "addCurve", "(JJZ)V"⟩, 7), (⟨"CurvePathsModel", "turn", "(II)V"⟩, 7)]
theorem lw_r2 : ∀ q ∈ lw_privs_2, lw_okq q := List.forall_mem_cons.mpr ⟨lw_p16, List.forall_mem_cons.mpr ⟨lw_p17, List.forall_mem_cons.mpr ⟨lw_p18, List.forall_mem_cons.mpr ⟨lw_p19, List.forall_mem_cons.mpr ⟨lw_p20, List.forall_mem_cons.mpr ⟨lw_p21, List.forall_mem_cons.mpr ⟨lw_p22, List.forall_mem_cons.mpr ⟨lw_p23, List.forall_mem_cons.mpr ⟨lw_p24, List.forall_mem_cons.mpr ⟨lw_p25, List.forall_mem_cons.mpr ⟨lw_p26, fun _ h => absurd h List.not_mem_nil⟩⟩⟩⟩⟩⟩⟩⟩⟩⟩⟩
def lw_privs : List (MethodName × Nat) := lw_privs_1 ++ (lw_privs_2)
def lw_tbl : List Cond := k2_sels lw_privs ++ tables_1
theorem lw_privs_ok : ∀ q ∈ lw_privs, lw_okq q := by
  show ∀ q ∈ lw_privs_1 ++ (lw_privs_2), lw_okq q
  exact List.forall_mem_append.mpr ⟨lw_r1, lw_r2⟩
end
section
def R_CP : String := "CurvePaths"
def T_CP : u_T := fun k => match k with
  | 0 => ("CurvePaths", "directions", "LCurvePaths$Axes;", true)
  | 1 => ("CurvePaths", "sweep", "LCurvePaths$Arc;", true)
  | 2 => ("CurvePaths", "halving", "LCurvePaths$Halving;", true)
  | 3 => ("CurvePaths", "path", "LCurvePaths$Path;", false)
  | _ => ("CurvePaths", "spare", "LCurvePaths$Path;", false)
def t_CP : Nat → FieldType := fun k => match k with
  | 0 => (.object "CurvePaths$Axes")
  | 1 => (.object "CurvePaths$Arc")
  | 2 => (.object "CurvePaths$Halving")
  | 3 => (.object "CurvePaths$Path")
  | _ => (.object "CurvePaths$Path")
theorem nk_CP : ∀ a, a < 5 → ∀ b, b < 5 → a ≠ b → (T_CP a).2.1 ≠ (T_CP b).2.1 := by decide +kernel
theorem tk_CP : ∀ k, k < 5 → parseFieldDescriptor (T_CP k).2.2.1 = some (t_CP k) := by decide +kernel
def R_M : String := "CurvePathsModel"
def T_M : u_T := fun k => match k with
  | 0 => ("CurvePathsModel", "path", "LCurvePathsModel$Path;", false)
  | 1 => ("CurvePathsModel", "draft", "LCurvePathsModel$Path;", false)
  | 2 => ("CurvePathsModel", "axes", "[J", true)
  | 3 => ("CurvePathsModel", "unit", "[J", true)
  | 4 => ("CurvePathsModel", "before", "[J", true)
  | 5 => ("CurvePathsModel", "behind", "[J", true)
  | _ => ("CurvePathsModel", "mixed", "[J", true)
def t_M : Nat → FieldType := fun k => match k with
  | 0 => (.object "CurvePathsModel$Path")
  | 1 => (.object "CurvePathsModel$Path")
  | 2 => (.array .long)
  | 3 => (.array .long)
  | 4 => (.array .long)
  | 5 => (.array .long)
  | _ => (.array .long)
theorem nk_M : ∀ a, a < 7 → ∀ b, b < 7 → a ≠ b → (T_M a).2.1 ≠ (T_M b).2.1 := by decide +kernel
theorem tk_M : ∀ k, k < 7 → parseFieldDescriptor (T_M k).2.2.1 = some (t_M k) := by decide +kernel
def R_Arc : String := "CurvePaths$Arc"
def T_Arc : u_T := fun k => match k with
  | 0 => ("CurvePaths$Arc", "xs", "[I", true)
  | 1 => ("CurvePaths$Arc", "ys", "[I", true)
  | 2 => ("CurvePaths$Arc", "as", "[I", true)
  | 3 => ("CurvePaths$Arc", "bs", "[I", true)
  | _ => ("CurvePaths$Arc", "pointCount", "I", false)
def t_Arc : Nat → FieldType := fun k => match k with
  | 0 => (.array .int)
  | 1 => (.array .int)
  | 2 => (.array .int)
  | 3 => (.array .int)
  | _ => .int
theorem nk_Arc : ∀ a, a < 5 → ∀ b, b < 5 → a ≠ b → (T_Arc a).2.1 ≠ (T_Arc b).2.1 := by decide +kernel
theorem tk_Arc : ∀ k, k < 5 → parseFieldDescriptor (T_Arc k).2.2.1 = some (t_Arc k) := by decide +kernel
def R_Axes : String := "CurvePaths$Axes"
def T_Axes : u_T := fun k => match k with
  | 0 => ("CurvePaths$Axes", "p", "J", false)
  | 1 => ("CurvePaths$Axes", "q", "J", false)
  | 2 => ("CurvePaths$Axes", "\x72", "J", false)
  | _ => ("CurvePaths$Axes", "s", "J", false)
def t_Axes : Nat → FieldType := fun k => match k with
  | 0 => .long
  | 1 => .long
  | 2 => .long
  | _ => .long
theorem nk_Axes : ∀ a, a < 4 → ∀ b, b < 4 → a ≠ b → (T_Axes a).2.1 ≠ (T_Axes b).2.1 := by decide +kernel
theorem tk_Axes : ∀ k, k < 4 → parseFieldDescriptor (T_Axes k).2.2.1 = some (t_Axes k) := by decide +kernel
def R_Halving : String := "CurvePaths$Halving"
def T_Halving : u_T := fun k => match k with
  | 0 => ("CurvePaths$Halving", "pieces", "[I", true)
  | _ => ("CurvePaths$Halving", "halvings", "[I", true)
def t_Halving : Nat → FieldType := fun k => match k with
  | 0 => (.array .int)
  | _ => (.array .int)
theorem nk_Halving : ∀ a, a < 2 → ∀ b, b < 2 → a ≠ b → (T_Halving a).2.1 ≠ (T_Halving b).2.1 := by decide +kernel
theorem tk_Halving : ∀ k, k < 2 → parseFieldDescriptor (T_Halving k).2.2.1 = some (t_Halving k) := by decide +kernel
def R_Path : String := "CurvePaths$Path"
def T_Path : u_T := fun k => match k with
  | 0 => ("CurvePaths$Path", "kinds", "[I", false)
  | 1 => ("CurvePaths$Path", "firsts", "[I", false)
  | 2 => ("CurvePaths$Path", "xs", "[I", false)
  | 3 => ("CurvePaths$Path", "ys", "[I", false)
  | 4 => ("CurvePaths$Path", "partCount", "I", false)
  | 5 => ("CurvePaths$Path", "pointCount", "I", false)
  | _ => ("CurvePaths$Path", "begunAt", "I", false)
def t_Path : Nat → FieldType := fun k => match k with
  | 0 => (.array .int)
  | 1 => (.array .int)
  | 2 => (.array .int)
  | 3 => (.array .int)
  | 4 => .int
  | 5 => .int
  | _ => .int
theorem nk_Path : ∀ a, a < 7 → ∀ b, b < 7 → a ≠ b → (T_Path a).2.1 ≠ (T_Path b).2.1 := by decide +kernel
theorem tk_Path : ∀ k, k < 7 → parseFieldDescriptor (T_Path k).2.2.1 = some (t_Path k) := by decide +kernel
def R_MPath : String := "CurvePathsModel$Path"
def T_MPath : u_T := fun k => match k with
  | 0 => ("CurvePathsModel$Path", "kinds", "[B", true)
  | 1 => ("CurvePathsModel$Path", "places", "[I", true)
  | 2 => ("CurvePathsModel$Path", "size", "I", false)
  | 3 => ("CurvePathsModel$Path", "full", "Z", false)
  | _ => ("CurvePathsModel$Path", "far", "Z", false)
def t_MPath : Nat → FieldType := fun k => match k with
  | 0 => (.array .byte)
  | 1 => (.array .int)
  | 2 => .int
  | 3 => .boolean
  | _ => .boolean
theorem nk_MPath : ∀ a, a < 5 → ∀ b, b < 5 → a ≠ b → (T_MPath a).2.1 ≠ (T_MPath b).2.1 := by decide +kernel
theorem tk_MPath : ∀ k, k < 5 → parseFieldDescriptor (T_MPath k).2.2.1 = some (t_MPath k) := by decide +kernel
abbrev cl : List vw_C := [(R_CP, T_CP, 5), (R_M, T_M, 7), (R_Arc, T_Arc, 5), (R_Axes, T_Axes, 4), (R_Halving, T_Halving, 2), (R_Path, T_Path, 7), (R_MPath, T_MPath, 5)]
/-- a word that stays: of the tables, or of an array class -/
def gd (w : Cond) : Bool := (w.onTables && w.keeps) || (match w with | .arrayClass _ => true | _ => false)
def gw : List Cond := lw_tbl.filter gd
theorem gw_in {w : Cond} (k : Nat) (h : lw_tbl[k]? = some w) (hg : gd w = true) : w ∈ gw := List.mem_filter.mpr ⟨List.mem_of_getElem? h, hg⟩
theorem gwc {w c : Cond} (h : w ∈ gw) : w ∈ c :: gw := List.mem_cons_of_mem _ h
theorem gd_ok {w : Cond} (h : gd w = true) : (w.onTables && w.keeps) = true ∨ ∃ ty, w = .arrayClass ty := by
  unfold gd at h
  rcases Bool.or_eq_true _ _ ▸ h with h | h
  · exact Or.inl h
  · split at h
    · exact Or.inr ⟨_, rfl⟩
    · cases h
theorem gi_1 {w c : Cond} (h : w ∈ gw) : w ∈ c :: gw ∧ ((w.onTables && w.keeps) = true ∨ ∃ ty, w = .arrayClass ty) := ⟨gwc h, gd_ok (List.mem_filter.mp h).2⟩
theorem gi_N {k c : Cond} (h : k ∈ gw) : GoodIn (c :: gw) (k :: gw) := fun w hw => by
  rcases List.mem_cons.mp hw with q | q
  · rw [q]; exact gi_1 h
  · exact gi_1 q
theorem gi_V {own C : String} {i : Nat} {y : MethodName} {k c : Cond} (h1 : Cond.methodLink own i y ∈ gw) (h2 : Cond.instanceMethod y ∈ gw) (h3 : Cond.selects C y y ∈ gw) (h4 : Cond.initialized C ∈ gw) (h : k ∈ gw) : GoodIn (c :: gw) (wsV own i C y (k :: gw)) := fun w hw => by
  rcases List.mem_append.mp hw with q | q
  · simp only [List.mem_cons, List.not_mem_nil, or_false] at q
    rcases q with q | q | q | q <;> rw [q]
    · exact gi_1 h1
    · exact gi_1 h2
    · exact gi_1 h3
    · exact gi_1 h4
  · exact gi_N h w q
theorem gi_S {own : String} {i : Nat} {y : MethodName} {k c : Cond} (h1 : Cond.methodLink own i y ∈ gw) (h2 : Cond.static y ∈ gw) (h4 : Cond.initialized y.cls ∈ gw) (h : k ∈ gw) : GoodIn (c :: gw) (va_wsS own i y (k :: gw)) := fun w hw => by
  rcases List.mem_append.mp hw with q | q
  · simp only [List.mem_cons, List.not_mem_nil, or_false] at q
    rcases q with q | q | q <;> rw [q]
    · exact gi_1 h1
    · exact gi_1 h2
    · exact gi_1 h4
  · exact gi_N h w q
theorem ux_CP : ∀ w ∈ u_ws R_CP T_CP 5, w ∈ gw := by decide +kernel
theorem ui_CP (c : Cond) : ∀ w ∈ u_ws R_CP T_CP 5, w ∈ c :: gw := fun w h => gwc (ux_CP w h)
theorem ux_M : ∀ w ∈ u_ws R_M T_M 7, w ∈ gw := by decide +kernel
theorem ui_M (c : Cond) : ∀ w ∈ u_ws R_M T_M 7, w ∈ c :: gw := fun w h => gwc (ux_M w h)
theorem ux_Arc : ∀ w ∈ u_ws R_Arc T_Arc 5, w ∈ gw := by decide +kernel
theorem ui_Arc (c : Cond) : ∀ w ∈ u_ws R_Arc T_Arc 5, w ∈ c :: gw := fun w h => gwc (ux_Arc w h)
theorem ux_Axes : ∀ w ∈ u_ws R_Axes T_Axes 4, w ∈ gw := by decide +kernel
theorem ui_Axes (c : Cond) : ∀ w ∈ u_ws R_Axes T_Axes 4, w ∈ c :: gw := fun w h => gwc (ux_Axes w h)
theorem ux_Halving : ∀ w ∈ u_ws R_Halving T_Halving 2, w ∈ gw := by decide +kernel
theorem ui_Halving (c : Cond) : ∀ w ∈ u_ws R_Halving T_Halving 2, w ∈ c :: gw := fun w h => gwc (ux_Halving w h)
theorem ux_Path : ∀ w ∈ u_ws R_Path T_Path 7, w ∈ gw := by decide +kernel
theorem ui_Path (c : Cond) : ∀ w ∈ u_ws R_Path T_Path 7, w ∈ c :: gw := fun w h => gwc (ux_Path w h)
theorem ux_MPath : ∀ w ∈ u_ws R_MPath T_MPath 5, w ∈ gw := by decide +kernel
theorem ui_MPath (c : Cond) : ∀ w ∈ u_ws R_MPath T_MPath 5, w ∈ c :: gw := fun w h => gwc (ux_MPath w h)
abbrev b_CP_init : ByteArray := prog_1_method_1_code
abbrev y_CP_init : MethodName := ⟨"CurvePaths", "<init>", "()V"⟩
abbrev w_CP_init : List Cond := .code y_CP_init b_CP_init 1 none :: gw
abbrev b_Object_init : ByteArray := object_method_1_code
abbrev y_Object_init : MethodName := ⟨"java/lang/Object", "<init>", "()V"⟩
abbrev w_Object_init : List Cond := .code y_Object_init b_Object_init 1 none :: gw
abbrev b_Axes_init : ByteArray := prog_3_method_1_code
abbrev y_Axes_init : MethodName := ⟨"CurvePaths$Axes", "<init>", "()V"⟩
abbrev w_Axes_init : List Cond := .code y_Axes_init b_Axes_init 1 none :: gw
abbrev b_Arc_init : ByteArray := prog_2_method_1_code
abbrev y_Arc_init : MethodName := ⟨"CurvePaths$Arc", "<init>", "()V"⟩
abbrev w_Arc_init : List Cond := .code y_Arc_init b_Arc_init 1 none :: gw
abbrev b_Halving_init : ByteArray := prog_4_method_1_code
abbrev y_Halving_init : MethodName := ⟨"CurvePaths$Halving", "<init>", "()V"⟩
abbrev w_Halving_init : List Cond := .code y_Halving_init b_Halving_init 1 none :: gw
abbrev b_Path_init : ByteArray := prog_5_method_1_code
abbrev y_Path_init : MethodName := ⟨"CurvePaths$Path", "<init>", "()V"⟩
abbrev w_Path_init : List Cond := .code y_Path_init b_Path_init 1 none :: gw
abbrev b_CP_move : ByteArray := prog_1_method_2_code
abbrev y_CP_move : MethodName := ⟨"CurvePaths", "move", "(II)I"⟩
abbrev w_CP_move : List Cond := .code y_CP_move b_CP_move 3 (some .int) :: gw
abbrev b_CP_isFarPoint : ByteArray := prog_1_method_23_code
abbrev y_CP_isFarPoint : MethodName := ⟨"CurvePaths", "isFarPoint", "(JJ)Z"⟩
abbrev w_CP_isFarPoint : List Cond := .code y_CP_isFarPoint b_CP_isFarPoint 4 (some .boolean) :: gw
abbrev b_CP_isFar : ByteArray := prog_1_method_22_code
abbrev y_CP_isFar : MethodName := ⟨"CurvePaths", "isFar", "(J)Z"⟩
abbrev w_CP_isFar : List Cond := .code y_CP_isFar b_CP_isFar 2 (some .boolean) :: gw
abbrev b_Path_onlyBegan : ByteArray := prog_5_method_4_code
abbrev y_Path_onlyBegan : MethodName := ⟨"CurvePaths$Path", "onlyBegan", "()Z"⟩
abbrev w_Path_onlyBegan : List Cond := .code y_Path_onlyBegan b_Path_onlyBegan 1 (some .boolean) :: gw
abbrev b_Path_replaceBeginning : ByteArray := prog_5_method_12_code
abbrev y_Path_replaceBeginning : MethodName := ⟨"CurvePaths$Path", "replaceBeginning", "(II)V"⟩
abbrev w_Path_replaceBeginning : List Cond := .code y_Path_replaceBeginning b_Path_replaceBeginning 3 none :: gw
abbrev b_Path_takes : ByteArray := prog_5_method_6_code
abbrev y_Path_takes : MethodName := ⟨"CurvePaths$Path", "takes", "(I)Z"⟩
abbrev w_Path_takes : List Cond := .code y_Path_takes b_Path_takes 2 (some .boolean) :: gw
abbrev b_Path_addBeginning : ByteArray := prog_5_method_13_code
abbrev y_Path_addBeginning : MethodName := ⟨"CurvePaths$Path", "addBeginning", "(II)V"⟩
abbrev w_Path_addBeginning : List Cond := .code y_Path_addBeginning b_Path_addBeginning 3 none :: gw
abbrev b_Path_addPart : ByteArray := prog_5_method_20_code
abbrev y_Path_addPart : MethodName := ⟨"CurvePaths$Path", "addPart", "(II)V"⟩
abbrev w_Path_addPart : List Cond := .code y_Path_addPart b_Path_addPart 3 none :: gw
abbrev b_CP_withRoom : ByteArray := prog_1_method_29_code
abbrev y_CP_withRoom : MethodName := ⟨"CurvePaths", "withRoom", "([III)[I"⟩
abbrev w_CP_withRoom : List Cond := .code y_CP_withRoom b_CP_withRoom 3 (some (.array .int)) :: gw
abbrev b_Math_min : ByteArray := prog_10_method_69_code
abbrev y_Math_min : MethodName := ⟨"java/lang/Math", "min", "(II)I"⟩
abbrev w_Math_min : List Cond := .code y_Math_min b_Math_min 2 (some .int) :: gw
abbrev b_Math_max : ByteArray := prog_10_method_65_code
abbrev y_Math_max : MethodName := ⟨"java/lang/Math", "max", "(II)I"⟩
abbrev w_Math_max : List Cond := .code y_Math_max b_Math_max 2 (some .int) :: gw
abbrev b_Arrays_copyOf : ByteArray := prog_12_method_123_code
abbrev y_Arrays_copyOf : MethodName := ⟨"java/util/Arrays", "copyOf", "([II)[I"⟩
abbrev w_Arrays_copyOf : List Cond := .code y_Arrays_copyOf b_Arrays_copyOf 3 (some (.array .int)) :: gw
abbrev b_Path_addPoint : ByteArray := prog_5_method_21_code
abbrev y_Path_addPoint : MethodName := ⟨"CurvePaths$Path", "addPoint", "(II)V"⟩
abbrev w_Path_addPoint : List Cond := .code y_Path_addPoint b_Path_addPoint 3 none :: gw
abbrev b_CP_line : ByteArray := prog_1_method_3_code
abbrev y_CP_line : MethodName := ⟨"CurvePaths", "line", "(II)I"⟩
abbrev w_CP_line : List Cond := .code y_CP_line b_CP_line 3 (some .int) :: gw
abbrev b_Path_isEmpty : ByteArray := prog_5_method_2_code
abbrev y_Path_isEmpty : MethodName := ⟨"CurvePaths$Path", "isEmpty", "()Z"⟩
abbrev w_Path_isEmpty : List Cond := .code y_Path_isEmpty b_Path_isEmpty 1 (some .boolean) :: gw
abbrev b_Path_takesSegments : ByteArray := prog_5_method_7_code
abbrev y_Path_takesSegments : MethodName := ⟨"CurvePaths$Path", "takesSegments", "(I)Z"⟩
abbrev w_Path_takesSegments : List Cond := .code y_Path_takesSegments b_Path_takesSegments 2 (some .boolean) :: gw
abbrev b_Path_isClosed : ByteArray := prog_5_method_5_code
abbrev y_Path_isClosed : MethodName := ⟨"CurvePaths$Path", "isClosed", "()Z"⟩
abbrev w_Path_isClosed : List Cond := .code y_Path_isClosed b_Path_isClosed 1 (some .boolean) :: gw
abbrev b_Path_goOn : ByteArray := prog_5_method_17_code
abbrev y_Path_goOn : MethodName := ⟨"CurvePaths$Path", "goOn", "()V"⟩
abbrev w_Path_goOn : List Cond := .code y_Path_goOn b_Path_goOn 1 none :: gw
abbrev b_Path_addLine : ByteArray := prog_5_method_14_code
abbrev y_Path_addLine : MethodName := ⟨"CurvePaths$Path", "addLine", "(II)V"⟩
abbrev w_Path_addLine : List Cond := .code y_Path_addLine b_Path_addLine 3 none :: gw
abbrev b_CP_curve : ByteArray := prog_1_method_4_code
abbrev y_CP_curve : MethodName := ⟨"CurvePaths", "curve", "(IIIIII)I"⟩
abbrev w_CP_curve : List Cond := .code y_CP_curve b_CP_curve 7 (some .int) :: gw
abbrev b_Path_addCurve : ByteArray := prog_5_method_15_code
abbrev y_Path_addCurve : MethodName := ⟨"CurvePaths$Path", "addCurve", "(IIIIII)V"⟩
abbrev w_Path_addCurve : List Cond := .code y_Path_addCurve b_Path_addCurve 7 none :: gw
abbrev b_CP_close : ByteArray := prog_1_method_5_code
abbrev y_CP_close : MethodName := ⟨"CurvePaths", "close", "()I"⟩
abbrev w_CP_close : List Cond := .code y_CP_close b_CP_close 1 (some .int) :: gw
abbrev b_Path_addClosing : ByteArray := prog_5_method_16_code
abbrev y_Path_addClosing : MethodName := ⟨"CurvePaths$Path", "addClosing", "()V"⟩
abbrev w_Path_addClosing : List Cond := .code y_Path_addClosing b_Path_addClosing 1 none :: gw
abbrev b_CP_axes : ByteArray := prog_1_method_6_code
abbrev y_CP_axes : MethodName := ⟨"CurvePaths", "axes", "(IIII)Z"⟩
abbrev w_CP_axes : List Cond := .code y_CP_axes b_CP_axes 5 (some .boolean) :: gw
abbrev b_Axes_set : ByteArray := prog_3_method_2_code
abbrev y_Axes_set : MethodName := ⟨"CurvePaths$Axes", "set", "(IIII)V"⟩
abbrev w_Axes_set : List Cond := .code y_Axes_set b_Axes_set 5 none :: gw
abbrev b_CP_arc : ByteArray := prog_1_method_7_code
abbrev y_CP_arc : MethodName := ⟨"CurvePaths", "arc", "(IIIII)I"⟩
abbrev w_CP_arc : List Cond := .code y_CP_arc b_CP_arc 8 (some .int) :: gw
abbrev b_CP_notBelow : ByteArray := prog_1_method_20_code
abbrev y_CP_notBelow : MethodName := ⟨"CurvePaths", "notBelow", "(JJ)J"⟩
abbrev w_CP_notBelow : List Cond := .code y_CP_notBelow b_CP_notBelow 4 (some .long) :: gw
abbrev b_Math_floorMod : ByteArray := prog_10_method_52_code
abbrev y_Math_floorMod : MethodName := ⟨"java/lang/Math", "floorMod", "(JJ)J"⟩
abbrev w_Math_floorMod : List Cond := .code y_Math_floorMod b_Math_floorMod 6 (some .long) :: gw
abbrev b_CP_notAbove : ByteArray := prog_1_method_21_code
abbrev y_CP_notAbove : MethodName := ⟨"CurvePaths", "notAbove", "(JJ)J"⟩
abbrev w_CP_notAbove : List Cond := .code y_CP_notAbove b_CP_notAbove 4 (some .long) :: gw
abbrev b_Math_abs : ByteArray := prog_10_method_61_code
abbrev y_Math_abs : MethodName := ⟨"java/lang/Math", "abs", "(J)J"⟩
abbrev w_Math_abs : List Cond := .code y_Math_abs b_Math_abs 2 (some .long) :: gw
abbrev b_Arc_reckon : ByteArray := prog_2_method_3_code
abbrev y_Arc_reckon : MethodName := ⟨"CurvePaths$Arc", "reckon", "(JJ)V"⟩
abbrev w_Arc_reckon : List Cond := .code y_Arc_reckon b_Arc_reckon 16 none :: gw
abbrev b_Math_floorDiv : ByteArray := prog_10_method_49_code
abbrev y_Math_floorDiv : MethodName := ⟨"java/lang/Math", "floorDiv", "(JJ)J"⟩
abbrev w_Math_floorDiv : List Cond := .code y_Math_floorDiv b_Math_floorDiv 6 (some .long) :: gw
abbrev b_Arc_placeIn : ByteArray := prog_2_method_7_code
abbrev y_Arc_placeIn : MethodName := ⟨"CurvePaths$Arc", "placeIn", "(JJ)I"⟩
abbrev w_Arc_placeIn : List Cond := .code y_Arc_placeIn b_Arc_placeIn 4 (some .int) :: gw
abbrev b_Arc_takePart : ByteArray := prog_2_method_8_code
abbrev y_Arc_takePart : MethodName := ⟨"CurvePaths$Arc", "takePart", "(JII)V"⟩
abbrev w_Arc_takePart : List Cond := .code y_Arc_takePart b_Arc_takePart 5 none :: gw
abbrev b_Arc_takeQuarter : ByteArray := prog_2_method_9_code
abbrev y_Arc_takeQuarter : MethodName := ⟨"CurvePaths$Arc", "takeQuarter", "(J)V"⟩
abbrev w_Arc_takeQuarter : List Cond := .code y_Arc_takeQuarter b_Arc_takeQuarter 5 none :: gw
abbrev b_Arc_turnQuarter : ByteArray := prog_2_method_10_code
abbrev y_Arc_turnQuarter : MethodName := ⟨"CurvePaths$Arc", "turnQuarter", "()V"⟩
abbrev w_Arc_turnQuarter : List Cond := .code y_Arc_turnQuarter b_Arc_turnQuarter 3 none :: gw
abbrev b_Arc_keepBefore : ByteArray := prog_2_method_11_code
abbrev y_Arc_keepBefore : MethodName := ⟨"CurvePaths$Arc", "keepBefore", "(I)V"⟩
abbrev w_Arc_keepBefore : List Cond := .code y_Arc_keepBefore b_Arc_keepBefore 4 none :: gw
abbrev b_Arc_mix : ByteArray := prog_2_method_13_code
abbrev y_Arc_mix : MethodName := ⟨"CurvePaths$Arc", "mix", "(III)I"⟩
abbrev w_Arc_mix : List Cond := .code y_Arc_mix b_Arc_mix 3 (some .int) :: gw
abbrev b_Arc_keepBehind : ByteArray := prog_2_method_12_code
abbrev y_Arc_keepBehind : MethodName := ⟨"CurvePaths$Arc", "keepBehind", "(I)V"⟩
abbrev w_Arc_keepBehind : List Cond := .code y_Arc_keepBehind b_Arc_keepBehind 4 none :: gw
abbrev b_Arc_addTaken : ByteArray := prog_2_method_14_code
abbrev y_Arc_addTaken : MethodName := ⟨"CurvePaths$Arc", "addTaken", "()V"⟩
abbrev w_Arc_addTaken : List Cond := .code y_Arc_addTaken b_Arc_addTaken 2 none :: gw
abbrev b_Arc_addPoint : ByteArray := prog_2_method_15_code
abbrev y_Arc_addPoint : MethodName := ⟨"CurvePaths$Arc", "addPoint", "(II)V"⟩
abbrev w_Arc_addPoint : List Cond := .code y_Arc_addPoint b_Arc_addPoint 3 none :: gw
abbrev b_Arc_turnRound : ByteArray := prog_2_method_4_code
abbrev y_Arc_turnRound : MethodName := ⟨"CurvePaths$Arc", "turnRound", "()V"⟩
abbrev w_Arc_turnRound : List Cond := .code y_Arc_turnRound b_Arc_turnRound 1 none :: gw
abbrev b_CP_turnRow : ByteArray := prog_1_method_28_code
abbrev y_CP_turnRow : MethodName := ⟨"CurvePaths", "turnRow", "([III)V"⟩
abbrev w_CP_turnRow : List Cond := .code y_CP_turnRow b_CP_turnRow 6 none :: gw
abbrev b_Arc_bringTo : ByteArray := prog_2_method_5_code
abbrev y_Arc_bringTo : MethodName := ⟨"CurvePaths$Arc", "bringTo", "(IILCurvePaths$Axes;)Z"⟩
abbrev w_Arc_bringTo : List Cond := .code y_Arc_bringTo b_Arc_bringTo 9 (some .boolean) :: gw
abbrev b_Axes_alongX : ByteArray := prog_3_method_3_code
abbrev y_Axes_alongX : MethodName := ⟨"CurvePaths$Axes", "alongX", "(II)J"⟩
abbrev w_Axes_alongX : List Cond := .code y_Axes_alongX b_Axes_alongX 3 (some .long) :: gw
abbrev b_Axes_alongY : ByteArray := prog_3_method_4_code
abbrev y_Axes_alongY : MethodName := ⟨"CurvePaths$Axes", "alongY", "(II)J"⟩
abbrev w_Axes_alongY : List Cond := .code y_Axes_alongY b_Axes_alongY 3 (some .long) :: gw
abbrev b_CP_addSweep : ByteArray := prog_1_method_18_code
abbrev y_CP_addSweep : MethodName := ⟨"CurvePaths", "addSweep", "()I"⟩
abbrev w_CP_addSweep : List Cond := .code y_CP_addSweep b_CP_addSweep 2 (some .int) :: gw
abbrev b_Arc_curveCount : ByteArray := prog_2_method_2_code
abbrev y_Arc_curveCount : MethodName := ⟨"CurvePaths$Arc", "curveCount", "()I"⟩
abbrev w_Arc_curveCount : List Cond := .code y_Arc_curveCount b_Arc_curveCount 1 (some .int) :: gw
abbrev b_Arc_addCurvesTo : ByteArray := prog_2_method_6_code
abbrev y_Arc_addCurvesTo : MethodName := ⟨"CurvePaths$Arc", "addCurvesTo", "(LCurvePaths$Path;)V"⟩
abbrev w_Arc_addCurvesTo : List Cond := .code y_Arc_addCurvesTo b_Arc_addCurvesTo 3 none :: gw
abbrev b_CP_shift : ByteArray := prog_1_method_8_code
abbrev y_CP_shift : MethodName := ⟨"CurvePaths", "shift", "(II)I"⟩
abbrev w_CP_shift : List Cond := .code y_CP_shift b_CP_shift 3 (some .int) :: gw
abbrev b_CP_staysNear : ByteArray := prog_1_method_24_code
abbrev y_CP_staysNear : MethodName := ⟨"CurvePaths", "staysNear", "([III)Z"⟩
abbrev w_CP_staysNear : List Cond := .code y_CP_staysNear b_CP_staysNear 4 (some .boolean) :: gw
abbrev b_CP_addToAll : ByteArray := prog_1_method_25_code
abbrev y_CP_addToAll : MethodName := ⟨"CurvePaths", "addToAll", "([III)V"⟩
abbrev w_CP_addToAll : List Cond := .code y_CP_addToAll b_CP_addToAll 4 none :: gw
abbrev b_CP_reverse : ByteArray := prog_1_method_9_code
abbrev y_CP_reverse : MethodName := ⟨"CurvePaths", "reverse", "()I"⟩
abbrev w_CP_reverse : List Cond := .code y_CP_reverse b_CP_reverse 1 (some .int) :: gw
abbrev b_Path_turnSubpaths : ByteArray := prog_5_method_18_code
abbrev y_Path_turnSubpaths : MethodName := ⟨"CurvePaths$Path", "turnSubpaths", "()V"⟩
abbrev w_Path_turnSubpaths : List Cond := .code y_Path_turnSubpaths b_Path_turnSubpaths 3 none :: gw
abbrev b_Path_turnSubpath : ByteArray := prog_5_method_19_code
abbrev y_Path_turnSubpath : MethodName := ⟨"CurvePaths$Path", "turnSubpath", "(II)V"⟩
abbrev w_Path_turnSubpath : List Cond := .code y_Path_turnSubpath b_Path_turnSubpath 8 none :: gw
abbrev b_Path_pointOf : ByteArray := prog_5_method_8_code
abbrev y_Path_pointOf : MethodName := ⟨"CurvePaths$Path", "pointOf", "(I)I"⟩
abbrev w_Path_pointOf : List Cond := .code y_Path_pointOf b_Path_pointOf 2 (some .int) :: gw
abbrev b_CP_flatten : ByteArray := prog_1_method_10_code
abbrev y_CP_flatten : MethodName := ⟨"CurvePaths", "flatten", "(I)I"⟩
abbrev w_CP_flatten : List Cond := .code y_CP_flatten b_CP_flatten 3 (some .int) :: gw
abbrev b_Path_makeEmpty : ByteArray := prog_5_method_11_code
abbrev y_Path_makeEmpty : MethodName := ⟨"CurvePaths$Path", "makeEmpty", "()V"⟩
abbrev w_Path_makeEmpty : List Cond := .code y_Path_makeEmpty b_Path_makeEmpty 1 none :: gw
abbrev b_CP_addFlattened : ByteArray := prog_1_method_19_code
abbrev y_CP_addFlattened : MethodName := ⟨"CurvePaths", "addFlattened", "(II)Z"⟩
abbrev w_CP_addFlattened : List Cond := .code y_CP_addFlattened b_CP_addFlattened 5 (some .boolean) :: gw
abbrev b_Halving_take : ByteArray := prog_4_method_2_code
abbrev y_Halving_take : MethodName := ⟨"CurvePaths$Halving", "take", "(LCurvePaths$Path;I)V"⟩
abbrev w_Halving_take : List Cond := .code y_Halving_take b_Halving_take 5 none :: gw
abbrev b_Halving_addLinesTo : ByteArray := prog_4_method_3_code
abbrev y_Halving_addLinesTo : MethodName := ⟨"CurvePaths$Halving", "addLinesTo", "(LCurvePaths$Path;I)Z"⟩
abbrev w_Halving_addLinesTo : List Cond := .code y_Halving_addLinesTo b_Halving_addLinesTo 6 (some .boolean) :: gw
abbrev b_Halving_isFlat : ByteArray := prog_4_method_4_code
abbrev y_Halving_isFlat : MethodName := ⟨"CurvePaths$Halving", "isFlat", "(II)Z"⟩
abbrev w_Halving_isFlat : List Cond := .code y_Halving_isFlat b_Halving_isFlat 4 (some .boolean) :: gw
abbrev b_Halving_isFlatAlong : ByteArray := prog_4_method_5_code
abbrev y_Halving_isFlatAlong : MethodName := ⟨"CurvePaths$Halving", "isFlatAlong", "(II)Z"⟩
abbrev w_Halving_isFlatAlong : List Cond := .code y_Halving_isFlatAlong b_Halving_isFlatAlong 3 (some .boolean) :: gw
abbrev b_Halving_isStraight : ByteArray := prog_4_method_6_code
abbrev y_Halving_isStraight : MethodName := ⟨"CurvePaths$Halving", "isStraight", "(II)Z"⟩
abbrev w_Halving_isStraight : List Cond := .code y_Halving_isStraight b_Halving_isStraight 5 (some .boolean) :: gw
abbrev b_Halving_halve : ByteArray := prog_4_method_7_code
abbrev y_Halving_halve : MethodName := ⟨"CurvePaths$Halving", "halve", "(I)V"⟩
abbrev w_Halving_halve : List Cond := .code y_Halving_halve b_Halving_halve 2 none :: gw
abbrev b_Halving_halveAlong : ByteArray := prog_4_method_8_code
abbrev y_Halving_halveAlong : MethodName := ⟨"CurvePaths$Halving", "halveAlong", "(I)V"⟩
abbrev w_Halving_halveAlong : List Cond := .code y_Halving_halveAlong b_Halving_halveAlong 10 none :: gw
abbrev b_Halving_setPiece : ByteArray := prog_4_method_9_code
abbrev y_Halving_setPiece : MethodName := ⟨"CurvePaths$Halving", "setPiece", "(IIIII)V"⟩
abbrev w_Halving_setPiece : List Cond := .code y_Halving_setPiece b_Halving_setPiece 6 none :: gw
abbrev b_CP_clear : ByteArray := prog_1_method_11_code
abbrev y_CP_clear : MethodName := ⟨"CurvePaths", "clear", "()I"⟩
abbrev w_CP_clear : List Cond := .code y_CP_clear b_CP_clear 2 (some .int) :: gw
abbrev b_CP_parts : ByteArray := prog_1_method_12_code
abbrev y_CP_parts : MethodName := ⟨"CurvePaths", "parts", "()I"⟩
abbrev w_CP_parts : List Cond := .code y_CP_parts b_CP_parts 1 (some .int) :: gw
abbrev b_CP_kind : ByteArray := prog_1_method_13_code
abbrev y_CP_kind : MethodName := ⟨"CurvePaths", "kind", "(I)I"⟩
abbrev w_CP_kind : List Cond := .code y_CP_kind b_CP_kind 2 (some .int) :: gw
abbrev b_Path_hasPart : ByteArray := prog_5_method_3_code
abbrev y_Path_hasPart : MethodName := ⟨"CurvePaths$Path", "hasPart", "(I)Z"⟩
abbrev w_Path_hasPart : List Cond := .code y_Path_hasPart b_Path_hasPart 2 (some .boolean) :: gw
abbrev b_CP_place : ByteArray := prog_1_method_14_code
abbrev y_CP_place : MethodName := ⟨"CurvePaths", "place", "(II)I"⟩
abbrev w_CP_place : List Cond := .code y_CP_place b_CP_place 3 (some .int) :: gw
abbrev b_Path_coordinate : ByteArray := prog_5_method_10_code
abbrev y_Path_coordinate : MethodName := ⟨"CurvePaths$Path", "coordinate", "(II)I"⟩
abbrev w_Path_coordinate : List Cond := .code y_Path_coordinate b_Path_coordinate 3 (some .int) :: gw
abbrev b_CP_point : ByteArray := prog_1_method_15_code
abbrev y_CP_point : MethodName := ⟨"CurvePaths", "point", "(I)I"⟩
abbrev w_CP_point : List Cond := .code y_CP_point b_CP_point 2 (some .int) :: gw
abbrev b_Path_latestPoint : ByteArray := prog_5_method_9_code
abbrev y_Path_latestPoint : MethodName := ⟨"CurvePaths$Path", "latestPoint", "()I"⟩
abbrev w_Path_latestPoint : List Cond := .code y_Path_latestPoint b_Path_latestPoint 1 (some .int) :: gw
abbrev b_CP_isPoint : ByteArray := prog_1_method_16_code
abbrev y_CP_isPoint : MethodName := ⟨"CurvePaths", "isPoint", "()Z"⟩
abbrev w_CP_isPoint : List Cond := .code y_CP_isPoint b_CP_isPoint 1 (some .boolean) :: gw
abbrev b_CP_bound : ByteArray := prog_1_method_17_code
abbrev y_CP_bound : MethodName := ⟨"CurvePaths", "bound", "(I)I"⟩
abbrev w_CP_bound : List Cond := .code y_CP_bound b_CP_bound 2 (some .int) :: gw
abbrev b_CP_least : ByteArray := prog_1_method_26_code
abbrev y_CP_least : MethodName := ⟨"CurvePaths", "least", "([II)I"⟩
abbrev w_CP_least : List Cond := .code y_CP_least b_CP_least 4 (some .int) :: gw
abbrev b_CP_greatest : ByteArray := prog_1_method_27_code
abbrev y_CP_greatest : MethodName := ⟨"CurvePaths", "greatest", "([II)I"⟩
abbrev w_CP_greatest : List Cond := .code y_CP_greatest b_CP_greatest 4 (some .int) :: gw
abbrev b_M_init : ByteArray := prog_7_method_1_code
abbrev y_M_init : MethodName := ⟨"CurvePathsModel", "<init>", "()V"⟩
abbrev w_M_init : List Cond := .code y_M_init b_M_init 1 none :: gw
abbrev b_MPath_init : ByteArray := prog_8_method_1_code
abbrev y_MPath_init : MethodName := ⟨"CurvePathsModel$Path", "<init>", "()V"⟩
abbrev w_MPath_init : List Cond := .code y_MPath_init b_MPath_init 1 none :: gw
abbrev b_M_isPoint : ByteArray := prog_7_method_3_code
abbrev y_M_isPoint : MethodName := ⟨"CurvePathsModel", "isPoint", "()Z"⟩
abbrev w_M_isPoint : List Cond := .code y_M_isPoint b_M_isPoint 1 (some .boolean) :: gw
abbrev b_M_point : ByteArray := prog_7_method_4_code
abbrev y_M_point : MethodName := ⟨"CurvePathsModel", "point", "(I)I"⟩
abbrev w_M_point : List Cond := .code y_M_point b_M_point 2 (some .int) :: gw
abbrev b_MPath_get : ByteArray := prog_8_method_4_code
abbrev y_MPath_get : MethodName := ⟨"CurvePathsModel$Path", "get", "(II)I"⟩
abbrev w_MPath_get : List Cond := .code y_MPath_get b_MPath_get 3 (some .int) :: gw
abbrev b_M_move : ByteArray := prog_7_method_5_code
abbrev y_M_move : MethodName := ⟨"CurvePathsModel", "move", "(II)I"⟩
abbrev w_M_move : List Cond := .code y_M_move b_M_move 3 (some .int) :: gw
abbrev b_MPath_copy : ByteArray := prog_8_method_3_code
abbrev y_MPath_copy : MethodName := ⟨"CurvePathsModel$Path", "copy", "(LCurvePathsModel$Path;)V"⟩
abbrev w_MPath_copy : List Cond := .code y_MPath_copy b_MPath_copy 3 none :: gw
abbrev b_MPath_empty : ByteArray := prog_8_method_2_code
abbrev y_MPath_empty : MethodName := ⟨"CurvePathsModel$Path", "empty", "()V"⟩
abbrev w_MPath_empty : List Cond := .code y_MPath_empty b_MPath_empty 1 none :: gw
abbrev b_MPath_begin : ByteArray := prog_8_method_10_code
abbrev y_MPath_begin : MethodName := ⟨"CurvePathsModel$Path", "begin", "(JJ)V"⟩
abbrev w_MPath_begin : List Cond := .code y_MPath_begin b_MPath_begin 5 none :: gw
abbrev b_MPath_addPoint : ByteArray := prog_8_method_7_code
abbrev y_MPath_addPoint : MethodName := ⟨"CurvePathsModel$Path", "addPoint", "(IJJ)V"⟩
abbrev w_MPath_addPoint : List Cond := .code y_MPath_addPoint b_MPath_addPoint 6 none :: gw
abbrev b_MPath_add : ByteArray := prog_8_method_6_code
abbrev y_MPath_add : MethodName := ⟨"CurvePathsModel$Path", "add", "(IJJJJJJ)V"⟩
abbrev w_MPath_add : List Cond := .code y_MPath_add b_MPath_add 14 none :: gw
abbrev b_MPath_isFar : ByteArray := prog_8_method_5_code
abbrev y_MPath_isFar : MethodName := ⟨"CurvePathsModel$Path", "isFar", "(J)Z"⟩
abbrev w_MPath_isFar : List Cond := .code y_MPath_isFar b_MPath_isFar 2 (some .boolean) :: gw
abbrev b_M_settle : ByteArray := prog_7_method_2_code
abbrev y_M_settle : MethodName := ⟨"CurvePathsModel", "settle", "()I"⟩
abbrev w_M_settle : List Cond := .code y_M_settle b_M_settle 2 (some .int) :: gw
abbrev b_M_line : ByteArray := prog_7_method_6_code
abbrev y_M_line : MethodName := ⟨"CurvePathsModel", "line", "(II)I"⟩
abbrev w_M_line : List Cond := .code y_M_line b_M_line 3 (some .int) :: gw
abbrev b_MPath_open : ByteArray := prog_8_method_9_code
abbrev y_MPath_open : MethodName := ⟨"CurvePathsModel$Path", "open", "()V"⟩
abbrev w_MPath_open : List Cond := .code y_MPath_open b_MPath_open 1 none :: gw
abbrev b_M_curve : ByteArray := prog_7_method_7_code
abbrev y_M_curve : MethodName := ⟨"CurvePathsModel", "curve", "(IIIIII)I"⟩
abbrev w_M_curve : List Cond := .code y_M_curve b_M_curve 7 (some .int) :: gw
abbrev b_M_close : ByteArray := prog_7_method_8_code
abbrev y_M_close : MethodName := ⟨"CurvePathsModel", "close", "()I"⟩
abbrev w_M_close : List Cond := .code y_M_close b_M_close 2 (some .int) :: gw
abbrev b_MPath_first : ByteArray := prog_8_method_8_code
abbrev y_MPath_first : MethodName := ⟨"CurvePathsModel$Path", "first", "(I)I"⟩
abbrev w_MPath_first : List Cond := .code y_MPath_first b_MPath_first 3 (some .int) :: gw
abbrev b_M_clear : ByteArray := prog_7_method_9_code
abbrev y_M_clear : MethodName := ⟨"CurvePathsModel", "clear", "()I"⟩
abbrev w_M_clear : List Cond := .code y_M_clear b_M_clear 2 (some .int) :: gw
abbrev b_M_axes : ByteArray := prog_7_method_10_code
abbrev y_M_axes : MethodName := ⟨"CurvePathsModel", "axes", "(IIII)Z"⟩
abbrev w_M_axes : List Cond := .code y_M_axes b_M_axes 5 (some .boolean) :: gw
abbrev b_M_arc : ByteArray := prog_7_method_22_code
abbrev y_M_arc : MethodName := ⟨"CurvePathsModel", "arc", "(IIIII)I"⟩
abbrev w_M_arc : List Cond := .code y_M_arc b_M_arc 8 (some .int) :: gw
abbrev b_M_addArc : ByteArray := prog_7_method_21_code
abbrev y_M_addArc : MethodName := ⟨"CurvePathsModel", "addArc", "(JJJJZ)V"⟩
abbrev w_M_addArc : List Cond := .code y_M_addArc b_M_addArc 19 none :: gw
abbrev b_M_from : ByteArray := prog_7_method_19_code
abbrev y_M_from : MethodName := ⟨"CurvePathsModel", "from", "(JJ)J"⟩
abbrev w_M_from : List Cond := .code y_M_from b_M_from 4 (some .long) :: gw
abbrev b_M_placeOf : ByteArray := prog_7_method_11_code
abbrev y_M_placeOf : MethodName := ⟨"CurvePathsModel", "placeOf", "(J)J"⟩
abbrev w_M_placeOf : List Cond := .code y_M_placeOf b_M_placeOf 2 (some .long) :: gw
abbrev b_M_to : ByteArray := prog_7_method_20_code
abbrev y_M_to : MethodName := ⟨"CurvePathsModel", "to", "(JJ)J"⟩
abbrev w_M_to : List Cond := .code y_M_to b_M_to 4 (some .long) :: gw
abbrev b_M_quarter : ByteArray := prog_7_method_12_code
abbrev y_M_quarter : MethodName := ⟨"CurvePathsModel", "quarter", "(J)V"⟩
abbrev w_M_quarter : List Cond := .code y_M_quarter b_M_quarter 7 none :: gw
abbrev b_M_cut : ByteArray := prog_7_method_15_code
abbrev y_M_cut : MethodName := ⟨"CurvePathsModel", "cut", "(JJ)V"⟩
abbrev w_M_cut : List Cond := .code y_M_cut b_M_cut 6 none :: gw
abbrev b_M_part : ByteArray := prog_7_method_14_code
abbrev y_M_part : MethodName := ⟨"CurvePathsModel", "part", "(J)V"⟩
abbrev w_M_part : List Cond := .code y_M_part b_M_part 5 none :: gw
abbrev b_M_mix : ByteArray := prog_7_method_13_code
abbrev y_M_mix : MethodName := ⟨"CurvePathsModel", "mix", "(JJJ)J"⟩
abbrev w_M_mix : List Cond := .code y_M_mix b_M_mix 6 (some .long) :: gw
abbrev b_M_beginArc : ByteArray := prog_7_method_17_code
abbrev y_M_beginArc : MethodName := ⟨"CurvePathsModel", "beginArc", "(JJJJ)V"⟩
abbrev w_M_beginArc : List Cond := .code y_M_beginArc b_M_beginArc 13 none :: gw
abbrev b_M_around : ByteArray := prog_7_method_16_code
abbrev y_M_around : MethodName := ⟨"CurvePathsModel", "around", "(JJJI)J"⟩
abbrev w_M_around : List Cond := .code y_M_around b_M_around 8 (some .long) :: gw
abbrev b_M_addCurve : ByteArray := prog_7_method_18_code
abbrev y_M_addCurve : MethodName := ⟨"CurvePathsModel", "addCurve", "(JJZ)V"⟩
abbrev w_M_addCurve : List Cond := .code y_M_addCurve b_M_addCurve 9 none :: gw
abbrev b_M_shift : ByteArray := prog_7_method_23_code
abbrev y_M_shift : MethodName := ⟨"CurvePathsModel", "shift", "(II)I"⟩
abbrev w_M_shift : List Cond := .code y_M_shift b_M_shift 5 (some .int) :: gw
abbrev b_M_reverse : ByteArray := prog_7_method_24_code
abbrev y_M_reverse : MethodName := ⟨"CurvePathsModel", "reverse", "()I"⟩
abbrev w_M_reverse : List Cond := .code y_M_reverse b_M_reverse 3 (some .int) :: gw
abbrev b_M_turn : ByteArray := prog_7_method_25_code
abbrev y_M_turn : MethodName := ⟨"CurvePathsModel", "turn", "(II)V"⟩
abbrev w_M_turn : List Cond := .code y_M_turn b_M_turn 7 none :: gw
abbrev b_M_flatten : ByteArray := prog_7_method_28_code
abbrev y_M_flatten : MethodName := ⟨"CurvePathsModel", "flatten", "(I)I"⟩
abbrev w_M_flatten : List Cond := .code y_M_flatten b_M_flatten 3 (some .int) :: gw
abbrev b_M_lay : ByteArray := prog_7_method_27_code
abbrev y_M_lay : MethodName := ⟨"CurvePathsModel", "lay", "(LCurvePathsModel$Path;JJJJJJJJII)V"⟩
abbrev w_M_lay : List Cond := .code y_M_lay b_M_lay 43 none :: gw
abbrev b_M_isStraight : ByteArray := prog_7_method_26_code
abbrev y_M_isStraight : MethodName := ⟨"CurvePathsModel", "isStraight", "(JJJI)Z"⟩
abbrev w_M_isStraight : List Cond := .code y_M_isStraight b_M_isStraight 7 (some .boolean) :: gw
abbrev b_M_parts : ByteArray := prog_7_method_29_code
abbrev y_M_parts : MethodName := ⟨"CurvePathsModel", "parts", "()I"⟩
abbrev w_M_parts : List Cond := .code y_M_parts b_M_parts 1 (some .int) :: gw
abbrev b_M_kind : ByteArray := prog_7_method_30_code
abbrev y_M_kind : MethodName := ⟨"CurvePathsModel", "kind", "(I)I"⟩
abbrev w_M_kind : List Cond := .code y_M_kind b_M_kind 2 (some .int) :: gw
abbrev b_M_place : ByteArray := prog_7_method_31_code
abbrev y_M_place : MethodName := ⟨"CurvePathsModel", "place", "(II)I"⟩
abbrev w_M_place : List Cond := .code y_M_place b_M_place 3 (some .int) :: gw
abbrev b_M_bound : ByteArray := prog_7_method_32_code
abbrev y_M_bound : MethodName := ⟨"CurvePathsModel", "bound", "(I)I"⟩
abbrev w_M_bound : List Cond := .code y_M_bound b_M_bound 6 (some .int) :: gw
end
section
/-! CONTRACTS OF ONE SHAPE: a method with the words w, the arguments av and the cells w0 answers 'rv u' and leaves the cells 'w1 u', for some u with 'ok u'; AM is what is known of the tables and of cells that nobody writes -/
def ctQ {S : Type} (D : va_G) (cl : List vw_C) (ok : S → Prop) (rv : S → Option Value) (w1 : S → va_W) (A : Nat → Prop) : Array Value → State → Outcome → State → Prop := fun _ st oc t => (∃ u : S, oc = .returned (rv u) ∧ ok u ∧ va_P D cl (w1 u) t.heap ∧ va_D A (w1 u)) ∧ va_F A st t
def ctP (D : va_G) (cl : List vw_C) (tys : List (ClassId × FieldType)) (AM : (Nat → Prop) → State → Heap → Prop) (av : List Value) (w0 : va_W) (sz : Nat) : Array Value → State → Prop := va_Pc av (fun U => U.heap.size = sz ∧ va_P D cl w0 U.heap ∧ va_K D cl tys U ∧ va_D (fun _ => True) w0 ∧ AM (va_A w0 sz) U U.heap)
def ctA (AM : (Nat → Prop) → State → Heap → Prop) : Prop := (∀ (A : Nat → Prop) (u U : State) (H : Heap), u.WarmedH U.vm → AM A u H → AM A U H) ∧ (∀ (A : Nat → Prop) (U : State) (H H1 : Heap), (∀ a : Nat, a < H.size → ¬ A a → H1[a]? = H[a]?) → AM A U H → AM A U H1) ∧ (∀ (A B : Nat → Prop) (U : State) (H : Heap), (∀ q, B q → A q) → AM A U H → AM B U H)
def ct (l : Launch) (D : va_G) (cl : List vw_C) (tys : List (ClassId × FieldType)) (AM : (Nat → Prop) → State → Heap → Prop) (y : MethodName) (w : List Cond) (fr lo mc ms : Nat) (av : List Value) (w0 : va_W) {S : Type} (ok : S → Prop) (rv : S → Option Value) (w1 : S → va_W) : Prop := ∀ sz : Nat, Met l y w { frames := fr, cells := mc, slots := ms, locals := lo } (ctP D cl tys AM av w0 sz) (ctQ D cl ok rv w1 (va_A w0 sz)) mc ms (va_A w0 sz)
section CTA
variable {l : Launch} {D : va_G} {cl : List vw_C} {tys : List (ClassId × FieldType)} {AM : (Nat → Prop) → State → Heap → Prop} {y : MethodName} {w w' : List Cond} {fr lo mc ms : Nat} {av : List Value} {w0 : va_W} {S : Type} {ok : S → Prop} {rv : S → Option Value} {w1 : S → va_W}
theorem ct_ofW {cc : ByteArray} {maxL : Nat} {ret : Option FieldType} (hy : plainName y.cls = true) (hw : w = Cond.code y cc maxL ret :: w') (hle : (lg_sl av).length ≤ maxL)
    (body : ∀ (p : Program) (e : Env) (R : Room) (s : State) (m : MethodId) (args : Array Value) (below : List Frame) (meth : Method) (c : Code) (A : Nat → Prop) (Q : State → Prop) (ls : Array Slot), p.tables.exec = Jvm.exec → c.code = cc → meth.sig.returnType = ret → c.maxLocals = maxL → (∀ q ∈ w, q.before args s = true) → s.vm.findClass y.cls = some m.cls → meth.locks = false → meth.name = y.name → R.frames = fr → R.cells = mc → R.slots = ms → R.locals = lo → Q = MQ below (ctQ D cl ok rv w1 A) args s mc ms A → va_K D cl tys s → va_P D cl w0 s.heap → va_D A w0 → va_S A s.heap s.heap [] → (∀ q : Nat, s.heap.size ≤ q → A q) → AM A s s.heap → lv_has ls maxL (lv_args 0 av) →
      W p l e R s m args below meth c s.heap [] 0 0 Q (F0 m 0 ls [])) : ct l D cl tys AM y w fr lo mc ms av w0 ok rv w1 := by
  intro sz
  refine Met.ofW (cc := cc) (maxL := maxL) (ret := ret) hy hw ?_
  intro p e s m args below meth c s₁ B hml hv
  obtain ⟨ha, hsz, hP, hK, hD0, hM⟩ := hv
  subst hsz
  have hl := lv_entry av (n := maxL) hle
  rw [show entryFrame m args maxL = entryFrame m av.toArray maxL from by rw [ha], lg_entry_eq]
  exact body p e _ s m args below meth c _ _ _ B.exec B.bytes B.returns hml (atoms_spec (ws := w) B.pre) (findClass_of_methodNamed B.named) B.notSynchronized (name_of_methodNamed B.named B.method).1 rfl rfl rfl rfl rfl hK hP hD0.self va_S.rf (fun q h => Or.inr h) hM hl
end CTA
theorem ct_sub {ws ws' : va_W} (is : List Nat) (h : is.map (fun i => ws[i]?) = ws'.map some) : is.filterMap (fun i => ws[i]?) = ws' := by
  induction is generalizing ws' with
  | nil => cases ws' with
    | nil => rfl
    | cons a r => cases h
  | cons i is ih => cases ws' with
    | nil => cases h
    | cons a r =>
      simp only [List.map_cons, List.cons.injEq] at h
      rw [List.filterMap_cons, h.1, ih h.2]
section CTB
variable {p : Program} {l : Launch} {e : Env} {R : Room} {s : State} {m : MethodId} {args : Array Value} {below : List Frame} {meth : Method} {c : Code} {H : Heap} {locs : List Loc} {cells slots : Nat} {Q : State → Prop}
variable {cc : ByteArray} {pc : Nat} {ls : Array Slot} {rest st : List Value} {D : va_G} {cl : List vw_C} {A : Nat → Prop} {tys : List (ClassId × FieldType)} {ws : va_W}
variable {AM : (Nat → Prop) → State → Heap → Prop} {S : Type} {ok : S → Prop} {rv : S → Option Value} {w1 : S → va_W} {mc ms : Nat}
/-- the end of a method: what it answers and the cells that it leaves, picked out of the world -/
theorem ct_reti {v : Int32} (hQ : Q = MQ below (ctQ D cl ok rv w1 A) args s mc ms A) (hx : p.tables.exec = Jvm.exec) (hb : c.code = cc) (hr : meth.sig.returnType = some .int) (hlocks : meth.locks = false) (hP : va_P D cl ws H) (hD : va_D A ws) (hS : va_S A s.heap H locs) (u : S) (w9 : va_W) (is : List Nat) (hv : rv u = some (.int v)) (hok : ok u) (he : w1 u = w9) (hi : is.map (fun i => ws[i]?) = w9.map some) (hn : va_nd is = true) (hc : cells ≤ mc) (hs : slots ≤ ms) (hdg : decode cc pc = .ok (.ireturn, 1)) : W p l e R s m args below meth c H locs cells slots Q (F0 m pc ls [.int v]) := by
  subst hQ
  exact W.widen hc hs (W.iret (v := v) hx hb hr (fun _ ht _ => ⟨⟨u, by rw [hv], hok, by rw [ht, he]; exact hP.sub is (ct_sub is hi), by rw [he]; exact hD.sub is hn hi⟩, hS.F ht⟩) hS.2.2 hdg hlocks)
theorem ct_retz {v : Int32} (hQ : Q = MQ below (ctQ D cl ok rv w1 A) args s mc ms A) (hx : p.tables.exec = Jvm.exec) (hb : c.code = cc) (hr : meth.sig.returnType = some .boolean) (hlocks : meth.locks = false) (hP : va_P D cl ws H) (hD : va_D A ws) (hS : va_S A s.heap H locs) (u : S) (w9 : va_W) (is : List Nat) (hv : rv u = some (.int v)) (hok : ok u) (he : w1 u = w9) (hi : is.map (fun i => ws[i]?) = w9.map some) (hn : va_nd is = true) (hz : narrow .boolean (.int v) = .int v) (hc : cells ≤ mc) (hs : slots ≤ ms) (hdg : decode cc pc = .ok (.ireturn, 1)) : W p l e R s m args below meth c H locs cells slots Q (F0 m pc ls [.int v]) := by
  subst hQ
  exact W.widen hc hs (W.zret (v := v) hx hb hr hz (fun _ ht _ => ⟨⟨u, by rw [hv], hok, by rw [ht, he]; exact hP.sub is (ct_sub is hi), by rw [he]; exact hD.sub is hn hi⟩, hS.F ht⟩) hS.2.2 hdg hlocks)
theorem ct_retl {v : Int64} (hQ : Q = MQ below (ctQ D cl ok rv w1 A) args s mc ms A) (hx : p.tables.exec = Jvm.exec) (hb : c.code = cc) (hr : meth.sig.returnType = some .long) (hlocks : meth.locks = false) (hP : va_P D cl ws H) (hD : va_D A ws) (hS : va_S A s.heap H locs) (u : S) (w9 : va_W) (is : List Nat) (hv : rv u = some (.long v)) (hok : ok u) (he : w1 u = w9) (hi : is.map (fun i => ws[i]?) = w9.map some) (hn : va_nd is = true) (hc : cells ≤ mc) (hs : slots ≤ ms) (hdg : decode cc pc = .ok (.lreturn, 1)) : W p l e R s m args below meth c H locs cells slots Q (F0 m pc ls [.long v]) := by
  subst hQ
  exact W.widen hc hs (W.lret (v := v) hx hb hr (fun _ ht _ => ⟨⟨u, by rw [hv], hok, by rw [ht, he]; exact hP.sub is (ct_sub is hi), by rw [he]; exact hD.sub is hn hi⟩, hS.F ht⟩) hS.2.2 hdg hlocks)
theorem ct_retv (hQ : Q = MQ below (ctQ D cl ok rv w1 A) args s mc ms A) (hx : p.tables.exec = Jvm.exec) (hb : c.code = cc) (hr : meth.sig.returnType = none) (hlocks : meth.locks = false) (hP : va_P D cl ws H) (hD : va_D A ws) (hS : va_S A s.heap H locs) (u : S) (w9 : va_W) (is : List Nat) (hv : rv u = none) (hok : ok u) (he : w1 u = w9) (hi : is.map (fun i => ws[i]?) = w9.map some) (hn : va_nd is = true) (hc : cells ≤ mc) (hs : slots ≤ ms) (hdg : decode cc pc = .ok (.return_, 1)) : W p l e R s m args below meth c H locs cells slots Q (F0 m pc ls []) := by
  subst hQ
  exact W.widen hc hs (W.vret hx hb hr (fun _ ht _ => ⟨⟨u, by rw [hv], hok, by rw [ht, he]; exact hP.sub is (ct_sub is hi), by rw [he]; exact hD.sub is hn hi⟩, hS.F ht⟩) hS.2.2 hdg hlocks)
theorem ct_reta {q : Nat} {rt : FieldType} (hQ : Q = MQ below (ctQ D cl ok rv w1 A) args s mc ms A) (hx : p.tables.exec = Jvm.exec) (hb : c.code = cc) (hr : meth.sig.returnType = some rt) (hrt : (∃ n, rt = .object n) ∨ ∃ t, rt = .array t) (hlocks : meth.locks = false) (hP : va_P D cl ws H) (hD : va_D A ws) (hS : va_S A s.heap H locs) (u : S) (w9 : va_W) (is : List Nat) (hv : rv u = some (.ref q)) (hok : ok u) (he : w1 u = w9) (hi : is.map (fun i => ws[i]?) = w9.map some) (hn : va_nd is = true) (hc : cells ≤ mc) (hs : slots ≤ ms) (hdg : decode cc pc = .ok (.areturn, 1)) : W p l e R s m args below meth c H locs cells slots Q (F0 m pc ls [.ref q]) := by
  subst hQ
  exact W.widen hc hs (W.aret (v := .ref q) hx hb hr hrt (Or.inr ⟨q, rfl⟩) (fun _ ht _ => ⟨⟨u, by rw [hv], hok, by rw [ht, he]; exact hP.sub is (ct_sub is hi), by rw [he]; exact hD.sub is hn hi⟩, hS.F ht⟩) hS.2.2 hdg hlocks)
theorem ctP_blind {av : List Value} {w0 : va_W} {sz : Nat} (hAM : ctA AM) : FrameBlind (ctP D cl tys AM av w0 sz) := by
  intro a U g mk q
  obtain ⟨q0, q1, qP, qK, qD, qM⟩ := q
  exact ⟨q0, q1, qP, va_K.moved (u := U) (U := U.calling g mk a) (Vm.Alike.refl U.vm) qK, qD, hAM.1 _ U (U.calling g mk a) _ (State.WarmedH.refl U) qM⟩
/-- what a caller has to show: the callee's cells stand in its world -/
theorem ctP_at {av : List Value} {w0 : va_W} (hAM : ctA AM) (hK : va_K D cl tys s) (hP : va_P D cl ws H) (hD : va_D A ws) (hS : va_S A s.heap H locs) (hA : ∀ q : Nat, s.heap.size ≤ q → A q) (hM : AM A s s.heap) (isC : List Nat) (hC : isC.map (fun i => ws[i]?) = w0.map some) (hnC : va_nd isC = true) : ∀ U : State, U.heap = H → s.WarmedH U.vm → ctP D cl tys AM av w0 H.size av.toArray U := by
  intro U hU hW
  have hF := va_free hD hS hA isC hC
  refine ⟨rfl, by rw [hU], by rw [hU]; exact hP.sub isC (ct_sub isC hC), va_K.moved hW.alike hK, (hD.sub isC hnC hC).weaken (fun _ _ _ _ => trivial), ?_⟩
  rw [hU]
  exact hAM.2.2 A _ U H hF (hAM.2.1 A U s.heap H (fun a h1 h2 => hS.2.1 a h1 h2) (hAM.1 A s U s.heap hW hM))
/-- behind a call: the answer, and the caller's world with the callee's new cells at its end -/
theorem ct_back {w0 wr : va_W} {a : Array Value} (hP : va_P D cl ws H) (hD : va_D A ws) (hS : va_S A s.heap H locs) (hA : ∀ q : Nat, s.heap.size ≤ q → A q) (isC isR : List Nat) (hC : isC.map (fun i => ws[i]?) = w0.map some) (hR : isR.map (fun i => ws[i]?) = wr.map some) (hnR : va_nd isR = true) (hdis : ∀ i ∈ isR, i ∉ isC)
    (hr : va_Run p l e R s m args below meth c H locs cells slots mc ms (F0 m pc ls st) rest (ctQ D cl ok rv w1 (va_A w0 H.size) a) (va_A w0 H.size))
    (kk : ∀ (u : S) (H1 : Heap) (locs1 : List Loc), ok u → va_P D cl (wr ++ w1 u) H1 → va_D A (wr ++ w1 u) → va_S A s.heap H1 locs1 → W p l e R s m args below meth c H1 locs1 (cells + mc) (slots + ms) Q (F0 m (pc + 3) ls ((rv u).toList ++ rest))) : W p l e R s m args below meth c H locs cells slots Q (F0 m pc ls st) := by
  have hF := va_free hD hS hA isC hC
  intro T hT X
  obtain ⟨v, st₀, t, T', L, h0, X', hL, e1, e2, ⟨⟨u, hv, hp, hb, hd⟩, hz, hk⟩, stp⟩ := hr T hT X
  cases hv
  rw [h0] at hz hk
  obtain ⟨j1, j2⟩ := va_join (H1 := t.heap) (w1 := w1 u) hP hD isC isR hC hR hnR hdis hk hF hb hd
  obtain ⟨t2, a1, b1⟩ := kk u T'.heap (locs ++ L) hp (by rw [e1]; exact j1) j2
    ⟨Nat.le_trans hS.1 (by rw [e1]; exact hz), fun q h1 h2 => by rw [e1, hk q (Nat.lt_of_lt_of_le h1 hS.1) (fun z => h2 (hF q z))]; exact hS.2.1 q h1 h2, fun q hq => by
      rcases List.mem_append.mp hq with h | h
      · exact hS.2.2 q h
      · exact hF _ (hL q h)⟩ T' rfl X'
  exact ⟨t2, stp t2 a1, b1⟩
variable {y : MethodName} {w w' : List Cond} {fr lo : Nat} {av As : List Value} {w0 : va_W} {wr : va_W} {bytes : ByteArray} {maxL nL n index ci q0 N b : Nat} {ret : Option FieldType} {Ts : List Cond} {own C host : String} {T : u_T} {fs : List Value}
/-- invokevirtual -/
theorem ct_callV (hM : ct l D cl tys AM y w fr lo mc ms (.ref b :: As) w0 ok rv w1) (hx : p.tables.exec = Jvm.exec) (hb : c.code = cc) (hml : c.maxLocals = nL) (hown : s.vm.findClass own = some m.cls) (hts : ∀ q ∈ Ts, q.before args s = true) (hAM : ctA AM) (hK : va_K D cl tys s) (hP : va_P D cl ws H) (hD : va_D A ws) (hS : va_S A s.heap H locs) (hA : ∀ q : Nat, s.heap.size ≤ q → A q) (hMM : AM A s s.heap)
    (hG : GoodIn Ts (wsV own index C y w)) (hw : w = Cond.code y bytes maxL ret :: w') (hd : y.cls = C ∧ y.cls ≠ "java/lang/invoke/MethodHandle" ∧ y.cls ≠ "java/lang/invoke/VarHandle" ∧ (parseMethodDescriptor y.desc).map (fun d => d.parameters.length) = some n) (hR : fr + 1 ≤ R.frames ∧ 8 + (maxL + 11) + lo ≤ R.locals)
    (isC isR : List Nat) (hC : isC.map (fun i => ws[i]?) = w0.map some) (hRr : isR.map (fun i => ws[i]?) = wr.map some) (hnC : va_nd isC = true) (hnR : va_nd isR = true) (hdis : ∀ i ∈ isR, i ∉ isC) (hrc : cl[ci]? = some (C, T, N)) (hre : ws[q0]? = some (b, .inr (ci, fs))) (hn : As.length = n) (hsize : ls.size = nL) (hst : st = As.reverse ++ .ref b :: rest) (hW : (rest.map fun v => v.category).sum ≤ 8) (hdg : decode cc pc = .ok (.invokevirtual index, 3)) (hf : cells + mc ≤ R.cells ∧ slots + ms ≤ R.slots)
    (kk : ∀ (u : S) (H1 : Heap) (locs1 : List Loc), ok u → va_P D cl (wr ++ w1 u) H1 → va_D A (wr ++ w1 u) → va_S A s.heap H1 locs1 → W p l e R s m args below meth c H1 locs1 (cells + mc) (slots + ms) Q (F0 m (pc + 3) ls ((rv u).toList ++ rest))) : W p l e R s m args below meth c H locs cells slots Q (F0 m pc ls st) :=
  ct_back hP hD hS hA isC isR hC hRr hnR hdis (va_runV (g := F0 m pc ls st) (As := As) (rest := rest) ⟨hx, hb, hml, hown, hts⟩ (hM H.size) (cwV n hts hG hw rfl rfl hd hR) ⟨ctP_blind hAM, va_recv hK hP hrc hre, ctP_at hAM hK hP hD hS hA hMM isC hC hnC⟩ rfl hn hsize hst (lv_room hW) hdg hf) kk
/-- invokestatic of the own class -/
theorem ct_callS (hM : ct l D cl tys AM y w fr lo mc ms av w0 ok rv w1) (hx : p.tables.exec = Jvm.exec) (hb : c.code = cc) (hml : c.maxLocals = nL) (hown : s.vm.findClass own = some m.cls) (hts : ∀ q ∈ Ts, q.before args s = true) (hAM : ctA AM) (hK : va_K D cl tys s) (hP : va_P D cl ws H) (hD : va_D A ws) (hS : va_S A s.heap H locs) (hA : ∀ q : Nat, s.heap.size ≤ q → A q) (hMM : AM A s s.heap)
    (hG : GoodIn Ts (va_wsS own index y w)) (hw : w = Cond.code y bytes maxL ret :: w') (hd : y.cls ≠ "java/lang/invoke/MethodHandle" ∧ y.cls ≠ "java/lang/invoke/VarHandle" ∧ (parseMethodDescriptor y.desc).map (fun d => d.parameters.length) = some n) (hR : fr + 1 ≤ R.frames ∧ 8 + (maxL + 11) + lo ≤ R.locals)
    (isC isR : List Nat) (hC : isC.map (fun i => ws[i]?) = w0.map some) (hRr : isR.map (fun i => ws[i]?) = wr.map some) (hnC : va_nd isC = true) (hnR : va_nd isR = true) (hdis : ∀ i ∈ isR, i ∉ isC) (hn : av.length = n) (hsize : ls.size = nL) (hst : st = av.reverse ++ rest) (hW : (rest.map fun v => v.category).sum ≤ 8) (hdg : decode cc pc = .ok (.invokestatic index, 3)) (hf : cells + mc ≤ R.cells ∧ slots + ms ≤ R.slots)
    (kk : ∀ (u : S) (H1 : Heap) (locs1 : List Loc), ok u → va_P D cl (wr ++ w1 u) H1 → va_D A (wr ++ w1 u) → va_S A s.heap H1 locs1 → W p l e R s m args below meth c H1 locs1 (cells + mc) (slots + ms) Q (F0 m (pc + 3) ls ((rv u).toList ++ rest))) : W p l e R s m args below meth c H locs cells slots Q (F0 m pc ls st) :=
  ct_back hP hD hS hA isC isR hC hRr hnR hdis (va_runS (g := F0 m pc ls st) (As := av) (rest := rest) ⟨hx, hb, hml, hown, hts⟩ (hM H.size) (va_cwS n hts hG hw rfl rfl hd hR) ⟨ctP_blind hAM, ctP_at hAM hK hP hD hS hA hMM isC hC hnC⟩ rfl hn hsize hst (lv_room hW) hdg hf) kk
/-- invokespecial <init> -/
theorem ct_callI (hM : ct l D cl tys AM y w fr lo mc ms (.ref b :: As) w0 ok rv w1) (hx : p.tables.exec = Jvm.exec) (hb : c.code = cc) (hml : c.maxLocals = nL) (hown : s.vm.findClass own = some m.cls) (hts : ∀ q ∈ Ts, q.before args s = true) (hAM : ctA AM) (hK : va_K D cl tys s) (hP : va_P D cl ws H) (hD : va_D A ws) (hS : va_S A s.heap H locs) (hA : ∀ q : Nat, s.heap.size ≤ q → A q) (hMM : AM A s s.heap)
    (hG : GoodIn Ts w) (hw : w = Cond.code y bytes maxL none :: w') (hini : (Cond.initialized y.cls).before args s = true) (hl : (Cond.methodLink own index y).before args s = true) (hin : (Cond.instanceMethod y).before args s = true) (hy1 : y.name = "<init>") (hd : y.cls ≠ "java/lang/invoke/MethodHandle" ∧ y.cls ≠ "java/lang/invoke/VarHandle" ∧ (parseMethodDescriptor y.desc).map (fun d => d.parameters.length) = some n) (hR : fr + 1 ≤ R.frames ∧ 8 + (maxL + 11) + lo ≤ R.locals)
    (isC isR : List Nat) (hC : isC.map (fun i => ws[i]?) = w0.map some) (hRr : isR.map (fun i => ws[i]?) = wr.map some) (hnC : va_nd isC = true) (hnR : va_nd isR = true) (hdis : ∀ i ∈ isR, i ∉ isC) (hn : As.length = n) (hsize : ls.size = nL) (hst : st = As.reverse ++ .ref b :: rest) (hW : (rest.map fun v => v.category).sum ≤ 8) (hdg : decode cc pc = .ok (.invokespecial index, 3)) (hf : cells + mc ≤ R.cells ∧ slots + ms ≤ R.slots)
    (kk : ∀ (u : S) (H1 : Heap) (locs1 : List Loc), ok u → va_P D cl (wr ++ w1 u) H1 → va_D A (wr ++ w1 u) → va_S A s.heap H1 locs1 → W p l e R s m args below meth c H1 locs1 (cells + mc) (slots + ms) Q (F0 m (pc + 3) ls ((rv u).toList ++ rest))) : W p l e R s m args below meth c H locs cells slots Q (F0 m pc ls st) :=
  ct_back hP hD hS hA isC isR hC hRr hnR hdis (va_runI (g := F0 m pc ls st) (As := As) (rest := rest) ⟨hx, hb, hml, hown, hts⟩ (hM H.size) (cwI n hts hG hw rfl rfl hini hl hin hy1 hd hR) ⟨ctP_blind hAM, ctP_at hAM hK hP hD hS hA hMM isC hC hnC⟩ rfl hn hsize hst (lv_room hW) hdg hf) kk
/-- invokestatic of a nest mate's private method -/
theorem ct_callSN (hM : ct l D cl tys AM y w fr lo mc ms av w0 ok rv w1) (hx : p.tables.exec = Jvm.exec) (hb : c.code = cc) (hml : c.maxLocals = nL) (hown : s.vm.findClass own = some m.cls) (hts : ∀ q ∈ Ts, q.before args s = true) (hAM : ctA AM) (hK : va_K D cl tys s) (hP : va_P D cl ws H) (hD : va_D A ws) (hS : va_S A s.heap H locs) (hA : ∀ q : Nat, s.heap.size ≤ q → A q) (hMM : AM A s s.heap)
    (hG : GoodIn Ts w) (hw : w = Cond.code y bytes maxL ret :: w') (hl : va_Nw (.methodLinkNest own index y host) s) (hini : (Cond.initialized y.cls).before args s = true) (hstat : (Cond.static y).before args s = true) (hd : y.cls ≠ "java/lang/invoke/MethodHandle" ∧ y.cls ≠ "java/lang/invoke/VarHandle" ∧ (parseMethodDescriptor y.desc).map (fun d => d.parameters.length) = some n) (hR : fr + 1 ≤ R.frames ∧ 8 + (maxL + 11) + lo ≤ R.locals)
    (isC isR : List Nat) (hC : isC.map (fun i => ws[i]?) = w0.map some) (hRr : isR.map (fun i => ws[i]?) = wr.map some) (hnC : va_nd isC = true) (hnR : va_nd isR = true) (hdis : ∀ i ∈ isR, i ∉ isC) (hn : av.length = n) (hsize : ls.size = nL) (hst : st = av.reverse ++ rest) (hW : (rest.map fun v => v.category).sum ≤ 8) (hdg : decode cc pc = .ok (.invokestatic index, 3)) (hf : cells + mc ≤ R.cells ∧ slots + ms ≤ R.slots)
    (kk : ∀ (u : S) (H1 : Heap) (locs1 : List Loc), ok u → va_P D cl (wr ++ w1 u) H1 → va_D A (wr ++ w1 u) → va_S A s.heap H1 locs1 → W p l e R s m args below meth c H1 locs1 (cells + mc) (slots + ms) Q (F0 m (pc + 3) ls ((rv u).toList ++ rest))) : W p l e R s m args below meth c H locs cells slots Q (F0 m pc ls st) :=
  ct_back hP hD hS hA isC isR hC hRr hnR hdis (va_runSN (g := F0 m pc ls st) (As := av) (rest := rest) ⟨hx, hb, hml, hown, hts⟩ (hM H.size) ⟨va_cnB n hts hG hw rfl rfl hl hini hd hR, hstat, trivial⟩ ⟨ctP_blind hAM, ctP_at hAM hK hP hD hS hA hMM isC hC hnC⟩ rfl hn hsize hst (lv_room hW) hdg hf) kk
/-- invokespecial of a nest mate's private <init> -/
theorem ct_callIN (hM : ct l D cl tys AM y w fr lo mc ms (.ref b :: As) w0 ok rv w1) (hx : p.tables.exec = Jvm.exec) (hb : c.code = cc) (hml : c.maxLocals = nL) (hown : s.vm.findClass own = some m.cls) (hts : ∀ q ∈ Ts, q.before args s = true) (hAM : ctA AM) (hK : va_K D cl tys s) (hP : va_P D cl ws H) (hD : va_D A ws) (hS : va_S A s.heap H locs) (hA : ∀ q : Nat, s.heap.size ≤ q → A q) (hMM : AM A s s.heap)
    (hG : GoodIn Ts w) (hw : w = Cond.code y bytes maxL none :: w') (hl : va_Nw (.methodLinkNest own index y host) s) (hini : (Cond.initialized y.cls).before args s = true) (hin : (Cond.instanceMethod y).before args s = true) (hy1 : y.name = "<init>") (hd : y.cls ≠ "java/lang/invoke/MethodHandle" ∧ y.cls ≠ "java/lang/invoke/VarHandle" ∧ (parseMethodDescriptor y.desc).map (fun d => d.parameters.length) = some n) (hR : fr + 1 ≤ R.frames ∧ 8 + (maxL + 11) + lo ≤ R.locals)
    (isC isR : List Nat) (hC : isC.map (fun i => ws[i]?) = w0.map some) (hRr : isR.map (fun i => ws[i]?) = wr.map some) (hnC : va_nd isC = true) (hnR : va_nd isR = true) (hdis : ∀ i ∈ isR, i ∉ isC) (hn : As.length = n) (hsize : ls.size = nL) (hst : st = As.reverse ++ .ref b :: rest) (hW : (rest.map fun v => v.category).sum ≤ 8) (hdg : decode cc pc = .ok (.invokespecial index, 3)) (hf : cells + mc ≤ R.cells ∧ slots + ms ≤ R.slots)
    (kk : ∀ (u : S) (H1 : Heap) (locs1 : List Loc), ok u → va_P D cl (wr ++ w1 u) H1 → va_D A (wr ++ w1 u) → va_S A s.heap H1 locs1 → W p l e R s m args below meth c H1 locs1 (cells + mc) (slots + ms) Q (F0 m (pc + 3) ls ((rv u).toList ++ rest))) : W p l e R s m args below meth c H locs cells slots Q (F0 m pc ls st) :=
  ct_back hP hD hS hA isC isR hC hRr hnR hdis (va_runIN (g := F0 m pc ls st) (As := As) (rest := rest) ⟨hx, hb, hml, hown, hts⟩ (hM H.size) ⟨va_cnB n hts hG hw rfl rfl hl hini hd hR, hy1, hin⟩ ⟨ctP_blind hAM, ctP_at hAM hK hP hD hS hA hMM isC hC hnC⟩ rfl hn hsize hst (lv_room hW) hdg hf) kk
end CTB
end
section
/-! rows of the kit with indices and counters as natural numbers -/
section HP
variable {p : Program} {l : Launch} {e : Env} {R : Room} {s : State} {m : MethodId} {args : Array Value} {below : List Frame} {meth : Method} {c : Code} {H : Heap} {locs : List Loc} {cells slots : Nat} {Q : State → Prop}
variable {cc : ByteArray} {pc : Nat} {ls : Array Slot} {rest : List Value} {D : va_G} {cl : List vw_C} {A : Nat → Prop} {a : Nat} {tys : List (ClassId × FieldType)} {ws : va_W} {H0 : Heap}
theorem tp_i {x : Int32} (y : Int32) (h : x = y) (k : W p l e R s m args below meth c H locs cells slots Q (F0 m pc ls (.int y :: rest))) : W p l e R s m args below meth c H locs cells slots Q (F0 m pc ls (.int x :: rest)) := by subst h; exact k
theorem tp_l {x : Int64} (y : Int64) (h : x = y) (k : W p l e R s m args below meth c H locs cells slots Q (F0 m pc ls (.long y :: rest))) : W p l e R s m args below meth c H locs cells slots Q (F0 m pc ls (.long x :: rest)) := by subst h; exact k
theorem ld_i (hexec : p.tables.exec = Jvm.exec) (hb : c.code = cc) (hK : va_K D cl tys s) (hP : va_P D cl ws H) (q0 t0 : Nat) {cA : ClassId} {n : Nat} {f : Nat → Int32} (ha : ws[q0]? = some (a, .inl (cA, n, .inl f))) (ht : tys[t0]? = some (cA, .int)) (k : Nat) (hk : k < n) (hn : n < 2 ^ 31) (hdg : decode cc pc = .ok (.iaload, 1))
    (kk : W p l e R s m args below meth c H locs cells slots Q (F0 m (pc + 1) ls (.int (f k) :: rest))) : W p l e R s m args below meth c H locs cells slots Q (F0 m pc ls (.int (nI k) :: .ref a :: rest)) :=
  va_iald hexec hb hK hP q0 t0 ha ht (vp_in_nI hk hn) hdg (by rw [nI_clamp (Nat.lt_trans hk hn)]; exact kk)
theorem st_i (hexec : p.tables.exec = Jvm.exec) (hb : c.code = cc) (hK : va_K D cl tys s) (hP : va_P D cl ws H) (hD : va_D A ws) (hS : va_S A H0 H locs) (q0 t0 : Nat) {cA : ClassId} {n : Nat} {f : Nat → Int32} (ha : ws[q0]? = some (a, .inl (cA, n, .inl f))) (ht : tys[t0]? = some (cA, .int)) (k : Nat) {x : Int32} (hk : k < n) (hn : n < 2 ^ 31) (hdg : decode cc pc = .ok (.iastore, 1))
    (kk : ∀ (H1 : Heap) (locs1 : List Loc), va_P D cl (ws.set q0 (a, .inl (cA, n, .inl (upd f k x)))) H1 → va_D A (ws.set q0 (a, .inl (cA, n, .inl (upd f k x)))) → va_S A H0 H1 locs1 → W p l e R s m args below meth c H1 locs1 cells slots Q (F0 m (pc + 1) ls rest)) : W p l e R s m args below meth c H locs cells slots Q (F0 m pc ls (.int x :: .int (nI k) :: .ref a :: rest)) :=
  va_iast hexec hb hK hP hD hS q0 t0 ha ht (vp_in_nI hk hn) hdg (by rw [nI_clamp (Nat.lt_trans hk hn)]; exact kk)
variable {a1 b1 tgt : Nat} {off : Int}
theorem bn_lt (hexec : p.tables.exec = Jvm.exec) (hb : c.code = cc) (ha : a1 < 2 ^ 31) (hbb : b1 < 2 ^ 31) (hdg : decode cc pc = .ok (.if_icmp .lt off, 3)) (ht : (pc : Int) + off = (tgt : Int)) (kt : a1 < b1 → W p l e R s m args below meth c H locs cells slots Q (F0 m tgt ls rest)) (kf : b1 ≤ a1 → W p l e R s m args below meth c H locs cells slots Q (F0 m (pc + 3) ls rest)) : W p l e R s m args below meth c H locs cells slots Q (F0 m pc ls (.int (nI b1) :: .int (nI a1) :: rest)) :=
  lv_icmp_lt hexec hb hdg ht (fun h => kt ((nI_ltI ha hbb).mp h)) (fun h => kf (Nat.not_lt.mp (fun q => h ((nI_ltI ha hbb).mpr q))))
theorem bn_ge (hexec : p.tables.exec = Jvm.exec) (hb : c.code = cc) (ha : a1 < 2 ^ 31) (hbb : b1 < 2 ^ 31) (hdg : decode cc pc = .ok (.if_icmp .ge off, 3)) (ht : (pc : Int) + off = (tgt : Int)) (kt : b1 ≤ a1 → W p l e R s m args below meth c H locs cells slots Q (F0 m tgt ls rest)) (kf : a1 < b1 → W p l e R s m args below meth c H locs cells slots Q (F0 m (pc + 3) ls rest)) : W p l e R s m args below meth c H locs cells slots Q (F0 m pc ls (.int (nI b1) :: .int (nI a1) :: rest)) :=
  lv_icmp_ge hexec hb hdg ht (fun h => kt ((nI_leI hbb ha).mp h)) (fun h => kf (Nat.not_le.mp (fun q => h ((nI_leI hbb ha).mpr q))))
theorem bn_gt (hexec : p.tables.exec = Jvm.exec) (hb : c.code = cc) (ha : a1 < 2 ^ 31) (hbb : b1 < 2 ^ 31) (hdg : decode cc pc = .ok (.if_icmp .gt off, 3)) (ht : (pc : Int) + off = (tgt : Int)) (kt : b1 < a1 → W p l e R s m args below meth c H locs cells slots Q (F0 m tgt ls rest)) (kf : a1 ≤ b1 → W p l e R s m args below meth c H locs cells slots Q (F0 m (pc + 3) ls rest)) : W p l e R s m args below meth c H locs cells slots Q (F0 m pc ls (.int (nI b1) :: .int (nI a1) :: rest)) :=
  lv_icmp_gt hexec hb hdg ht (fun h => kt ((nI_ltI hbb ha).mp h)) (fun h => kf (Nat.not_lt.mp (fun q => h ((nI_ltI hbb ha).mpr q))))
theorem bn_le (hexec : p.tables.exec = Jvm.exec) (hb : c.code = cc) (ha : a1 < 2 ^ 31) (hbb : b1 < 2 ^ 31) (hdg : decode cc pc = .ok (.if_icmp .le off, 3)) (ht : (pc : Int) + off = (tgt : Int)) (kt : a1 ≤ b1 → W p l e R s m args below meth c H locs cells slots Q (F0 m tgt ls rest)) (kf : b1 < a1 → W p l e R s m args below meth c H locs cells slots Q (F0 m (pc + 3) ls rest)) : W p l e R s m args below meth c H locs cells slots Q (F0 m pc ls (.int (nI b1) :: .int (nI a1) :: rest)) :=
  lv_icmp_le hexec hb hdg ht (fun h => kt ((nI_leI ha hbb).mp h)) (fun h => kf (Nat.not_le.mp (fun q => h ((nI_leI ha hbb).mpr q))))
theorem bn_eq (hexec : p.tables.exec = Jvm.exec) (hb : c.code = cc) (ha : a1 < 2 ^ 31) (hbb : b1 < 2 ^ 31) (hdg : decode cc pc = .ok (.if_icmp .eq off, 3)) (ht : (pc : Int) + off = (tgt : Int)) (kt : a1 = b1 → W p l e R s m args below meth c H locs cells slots Q (F0 m tgt ls rest)) (kf : ¬ a1 = b1 → W p l e R s m args below meth c H locs cells slots Q (F0 m (pc + 3) ls rest)) : W p l e R s m args below meth c H locs cells slots Q (F0 m pc ls (.int (nI b1) :: .int (nI a1) :: rest)) :=
  lv_icmp_eq hexec hb hdg ht (fun h => kt ((nI_eq ha hbb).mp h)) (fun h => kf (fun q => h ((nI_eq ha hbb).mpr q)))
theorem bn_ne (hexec : p.tables.exec = Jvm.exec) (hb : c.code = cc) (ha : a1 < 2 ^ 31) (hbb : b1 < 2 ^ 31) (hdg : decode cc pc = .ok (.if_icmp .ne off, 3)) (ht : (pc : Int) + off = (tgt : Int)) (kt : ¬ a1 = b1 → W p l e R s m args below meth c H locs cells slots Q (F0 m tgt ls rest)) (kf : a1 = b1 → W p l e R s m args below meth c H locs cells slots Q (F0 m (pc + 3) ls rest)) : W p l e R s m args below meth c H locs cells slots Q (F0 m pc ls (.int (nI b1) :: .int (nI a1) :: rest)) :=
  lv_icmp_ne hexec hb hdg ht (fun h => kt (fun q => h ((nI_eq ha hbb).mpr q))) (fun h => kf ((nI_eq ha hbb).mp h))
theorem bz_eq (hexec : p.tables.exec = Jvm.exec) (hb : c.code = cc) (ha : a1 < 2 ^ 31) (hdg : decode cc pc = .ok (.ifCond .eq off, 3)) (ht : (pc : Int) + off = (tgt : Int)) (kt : a1 = 0 → W p l e R s m args below meth c H locs cells slots Q (F0 m tgt ls rest)) (kf : 0 < a1 → W p l e R s m args below meth c H locs cells slots Q (F0 m (pc + 3) ls rest)) : W p l e R s m args below meth c H locs cells slots Q (F0 m pc ls (.int (nI a1) :: rest)) :=
  lv_if_eq hexec hb hdg ht (fun h => kt ((nI_eq ha (by decide)).mp (h.trans nI_0.symm))) (fun h => kf (Nat.pos_of_ne_zero (fun q => h (by rw [q]; exact nI_0))))
theorem bz_ne (hexec : p.tables.exec = Jvm.exec) (hb : c.code = cc) (ha : a1 < 2 ^ 31) (hdg : decode cc pc = .ok (.ifCond .ne off, 3)) (ht : (pc : Int) + off = (tgt : Int)) (kt : 0 < a1 → W p l e R s m args below meth c H locs cells slots Q (F0 m tgt ls rest)) (kf : a1 = 0 → W p l e R s m args below meth c H locs cells slots Q (F0 m (pc + 3) ls rest)) : W p l e R s m args below meth c H locs cells slots Q (F0 m pc ls (.int (nI a1) :: rest)) :=
  lv_if_ne hexec hb hdg ht (fun h => kt (Nat.pos_of_ne_zero (fun q => h (by rw [q]; exact nI_0)))) (fun h => kf ((nI_eq ha (by decide)).mp (h.trans nI_0.symm)))
theorem bz_le (hexec : p.tables.exec = Jvm.exec) (hb : c.code = cc) (ha : a1 < 2 ^ 31) (hdg : decode cc pc = .ok (.ifCond .le off, 3)) (ht : (pc : Int) + off = (tgt : Int)) (kt : a1 = 0 → W p l e R s m args below meth c H locs cells slots Q (F0 m tgt ls rest)) (kf : 0 < a1 → W p l e R s m args below meth c H locs cells slots Q (F0 m (pc + 3) ls rest)) : W p l e R s m args below meth c H locs cells slots Q (F0 m pc ls (.int (nI a1) :: rest)) :=
  lv_if_le hexec hb hdg ht (fun h => kt (Nat.le_zero.mp ((nI_leI ha (by decide)).mp (by rw [nI_0]; exact h)))) (fun h => kf (Nat.pos_of_ne_zero (fun q => h (by rw [q, nI_0]; exact Int32.le_refl 0))))
end HP
section LC
variable {p : Program} {l : Launch} {e : Env} {R : Room} {s : State} {m : MethodId} {args : Array Value} {below : List Frame} {meth : Method} {c : Code} {H : Heap} {locs : List Loc} {cells slots : Nat} {Q : State → Prop}
variable {cc : ByteArray} {pc : Nat} {ls : Array Slot} {rest : List Value} {x y : Int64} {tgt : Nat} {off : Int}
theorem lc_lt (hexec : p.tables.exec = Jvm.exec) (hb : c.code = cc) (hdg : decode cc pc = .ok (.ifCond .lt off, 3)) (ht : (pc : Int) + off = (tgt : Int)) (kt : x < y → W p l e R s m args below meth c H locs cells slots Q (F0 m tgt ls rest)) (kf : ¬ x < y → W p l e R s m args below meth c H locs cells slots Q (F0 m (pc + 3) ls rest)) : W p l e R s m args below meth c H locs cells slots Q (F0 m pc ls (.int (lg_cmp x y) :: rest)) := lv_if_lt hexec hb hdg ht (fun h => kt ((lg_cmp_lt x y).mp h)) (fun h => kf (fun q => h ((lg_cmp_lt x y).mpr q)))
theorem lc_ge (hexec : p.tables.exec = Jvm.exec) (hb : c.code = cc) (hdg : decode cc pc = .ok (.ifCond .ge off, 3)) (ht : (pc : Int) + off = (tgt : Int)) (kt : y ≤ x → W p l e R s m args below meth c H locs cells slots Q (F0 m tgt ls rest)) (kf : ¬ y ≤ x → W p l e R s m args below meth c H locs cells slots Q (F0 m (pc + 3) ls rest)) : W p l e R s m args below meth c H locs cells slots Q (F0 m pc ls (.int (lg_cmp x y) :: rest)) := lv_if_ge hexec hb hdg ht (fun h => kt ((lg_cmp_ge x y).mp h)) (fun h => kf (fun q => h ((lg_cmp_ge x y).mpr q)))
theorem lc_gt (hexec : p.tables.exec = Jvm.exec) (hb : c.code = cc) (hdg : decode cc pc = .ok (.ifCond .gt off, 3)) (ht : (pc : Int) + off = (tgt : Int)) (kt : y < x → W p l e R s m args below meth c H locs cells slots Q (F0 m tgt ls rest)) (kf : ¬ y < x → W p l e R s m args below meth c H locs cells slots Q (F0 m (pc + 3) ls rest)) : W p l e R s m args below meth c H locs cells slots Q (F0 m pc ls (.int (lg_cmp x y) :: rest)) := lv_if_gt hexec hb hdg ht (fun h => kt ((lg_cmp_gt x y).mp h)) (fun h => kf (fun q => h ((lg_cmp_gt x y).mpr q)))
theorem lc_le (hexec : p.tables.exec = Jvm.exec) (hb : c.code = cc) (hdg : decode cc pc = .ok (.ifCond .le off, 3)) (ht : (pc : Int) + off = (tgt : Int)) (kt : x ≤ y → W p l e R s m args below meth c H locs cells slots Q (F0 m tgt ls rest)) (kf : ¬ x ≤ y → W p l e R s m args below meth c H locs cells slots Q (F0 m (pc + 3) ls rest)) : W p l e R s m args below meth c H locs cells slots Q (F0 m pc ls (.int (lg_cmp x y) :: rest)) := lv_if_le hexec hb hdg ht (fun h => kt ((lg_cmp_le x y).mp h)) (fun h => kf (fun q => h ((lg_cmp_le x y).mpr q)))
theorem lc_eq (hexec : p.tables.exec = Jvm.exec) (hb : c.code = cc) (hdg : decode cc pc = .ok (.ifCond .eq off, 3)) (ht : (pc : Int) + off = (tgt : Int)) (kt : x = y → W p l e R s m args below meth c H locs cells slots Q (F0 m tgt ls rest)) (kf : ¬ x = y → W p l e R s m args below meth c H locs cells slots Q (F0 m (pc + 3) ls rest)) : W p l e R s m args below meth c H locs cells slots Q (F0 m pc ls (.int (lg_cmp x y) :: rest)) := lv_if_eq hexec hb hdg ht (fun h => kt ((lg_cmp_eq x y).mp h)) (fun h => kf (fun q => h ((lg_cmp_eq x y).mpr q)))
theorem lc_ne (hexec : p.tables.exec = Jvm.exec) (hb : c.code = cc) (hdg : decode cc pc = .ok (.ifCond .ne off, 3)) (ht : (pc : Int) + off = (tgt : Int)) (kt : ¬ x = y → W p l e R s m args below meth c H locs cells slots Q (F0 m tgt ls rest)) (kf : x = y → W p l e R s m args below meth c H locs cells slots Q (F0 m (pc + 3) ls rest)) : W p l e R s m args below meth c H locs cells slots Q (F0 m pc ls (.int (lg_cmp x y) :: rest)) := lv_if_ne hexec hb hdg ht (fun h => kt (fun q => h ((lg_cmp_eq x y).mpr q))) (fun h => kf ((lg_cmp_eq x y).mp h))
end LC
section NA
variable {p : Program} {l : Launch} {e : Env} {R : Room} {s : State} {m : MethodId} {args : Array Value} {below : List Frame} {meth : Method} {c : Code} {H : Heap} {locs : List Loc} {cells slots : Nat} {Q : State → Prop}
variable {cc : ByteArray} {pc : Nat} {ls : Array Slot} {rest : List Value} {D : va_G} {cl : List vw_C} {A : Nat → Prop} {tys : List (ClassId × FieldType)} {ws : va_W} {H0 : Heap}
/-- a new row of ints: its class is the one that the tables know -/
theorem na_i (hexec : p.tables.exec = Jvm.exec) (hb : c.code = cc) (harr : (Cond.arrayClass .int).before args s = true) (hK : va_K D cl tys s) (hP : va_P D cl ws H) (hD : va_D A ws) (hS : va_S A H0 H locs) (hA : ∀ q, H0.size ≤ q → A q) (t0 : Nat) {cI : ClassId} (ht : tys[t0]? = some (cI, .int)) (n : Nat) (hn : n < 2 ^ 26) (hcells : cells + 1 ≤ R.cells) (hslots : slots + n ≤ R.slots) (hdg : decode cc pc = .ok (.newarray .int, 2))
    (kk : ∀ (q : Nat) (H1 : Heap), va_P D cl (ws ++ [(q, .inl (cI, n, .inl (fun _ => 0)))]) H1 → va_D A (ws ++ [(q, .inl (cI, n, .inl (fun _ => 0)))]) → va_S A H0 H1 locs → W p l e R s m args below meth c H1 locs (cells + 1) (slots + n) Q (F0 m (pc + 2) ls (.ref q :: rest))) : W p l e R s m args below meth c H locs cells slots Q (F0 m pc ls (.int (nI n) :: rest)) := by
  refine va_newa (atype := .int) (ty := .int) (a0 := (n, .inl (fun _ => 0))) (N' := n) hexec hb harr rfl hK hP hD hS hA (fun cA => rfl) (nI_pos (by omega)) (nI_clamp (by omega)) ?_ hcells hslots hdg (fun q cA H1 hK1 hP1 hD1 hS1 => ?_)
  · show n * 4 ≤ 536870912
    omega
  · have h1 := (hK1.2 tys.length (cA, .int) (by simp)).2
    have h2 := (hK.2 t0 _ ht).2
    have h3 : cA = cI := Option.some.inj (h1.symm.trans h2)
    subst h3
    exact kk q H1 hP1 hD1 hS1
end NA
end
