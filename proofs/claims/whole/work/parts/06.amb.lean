/-- the row QUARTER, as the class has it at its start -/
def qtab : Nat → Int32 := fun j => match j with | 0 => 65536 | 1 => 0 | 2 => 65536 | 3 => 36195 | 4 => 36195 | 5 => 65536 | 6 => 0 | _ => 65536
/-- what nobody changes: links between nest mates, and the static row -/
def amb (qQ : Nat) (A : Nat → Prop) (U : State) (H : Heap) : Prop := va_Nw (.methodLinkNest "CurvePaths" (11) ({ cls := "CurvePaths$Axes", name := "<init>", desc := "()V" }) "CurvePaths") U ∧ va_Nw (.methodLinkNest "CurvePaths" (18) ({ cls := "CurvePaths$Arc", name := "<init>", desc := "()V" }) "CurvePaths") U ∧ va_Nw (.methodLinkNest "CurvePaths" (25) ({ cls := "CurvePaths$Halving", name := "<init>", desc := "()V" }) "CurvePaths") U ∧ va_Nw (.methodLinkNest "CurvePaths" (32) ({ cls := "CurvePaths$Path", name := "<init>", desc := "()V" }) "CurvePaths") U ∧ va_Nw (.fieldLinkNest "CurvePaths$Arc" (94) "CurvePaths" "QUARTER" "[I" "CurvePaths") U ∧ va_Nw (.methodLinkNest "CurvePaths$Arc" (60) ({ cls := "CurvePaths", name := "turnRow", desc := "([III)V" }) "CurvePaths") U ∧ va_Nw (.methodLinkNest "CurvePaths$Arc" (73) ({ cls := "CurvePaths", name := "isFarPoint", desc := "(JJ)Z" }) "CurvePaths") U ∧ va_Nw (.methodLinkNest "CurvePaths$Path" (59) ({ cls := "CurvePaths", name := "turnRow", desc := "([III)V" }) "CurvePaths") U ∧ va_Nw (.methodLinkNest "CurvePathsModel" (9) ({ cls := "CurvePathsModel$Path", name := "<init>", desc := "()V" }) "CurvePathsModel") U ∧ va_Nw (.fieldLinkNest "CurvePathsModel" (77) "CurvePathsModel$Path" "kinds" "[B" "CurvePathsModel") U ∧ va_Nw (.fieldLinkNest "CurvePathsModel" (42) "CurvePathsModel$Path" "size" "I" "CurvePathsModel") U ∧ va_Nw (.fieldLinkNest "CurvePathsModel" (39) "CurvePathsModel$Path" "full" "Z" "CurvePathsModel") U ∧ va_Nw (.fieldLinkNest "CurvePathsModel" (35) "CurvePathsModel$Path" "far" "Z" "CurvePathsModel") U ∧ va_Nw (.methodLinkNest "CurvePathsModel" (88) ({ cls := "CurvePathsModel$Path", name := "isFar", desc := "(J)Z" }) "CurvePathsModel") U ∧ va_Z "CurvePaths" "QUARTER" "[I" (.ref qQ) A U H ∧ va_T .int qQ 8 (fun j => .int (qtab j)) A U H
theorem amb_ok (qQ : Nat) : ctA (amb qQ) := by
  refine ⟨fun A u U H hW h => ?_, fun A U H H1 hk h => ?_, fun A B U H hk h => ?_⟩
  · obtain ⟨h0, h1, h2, h3, h4, h5, h6, h7, h8, h9, h10, h11, h12, h13, hz, ht⟩ := h
    exact ⟨h0.warmM hW, h1.warmM hW, h2.warmM hW, h3.warmM hW, h4.warmF hW, h5.warmM hW, h6.warmM hW, h7.warmM hW, h8.warmM hW, h9.warmF hW, h10.warmF hW, h11.warmF hW, h12.warmF hW, h13.warmM hW, hz.moved hW.alike, ht.moved hW.alike⟩
  · obtain ⟨h0, h1, h2, h3, h4, h5, h6, h7, h8, h9, h10, h11, h12, h13, hz, ht⟩ := h
    exact ⟨h0, h1, h2, h3, h4, h5, h6, h7, h8, h9, h10, h11, h12, h13, hz.kept hk, ht.kept hk⟩
  · obtain ⟨h0, h1, h2, h3, h4, h5, h6, h7, h8, h9, h10, h11, h12, h13, hz, ht⟩ := h
    exact ⟨h0, h1, h2, h3, h4, h5, h6, h7, h8, h9, h10, h11, h12, h13, hz.narrow hk, ht.narrow hk⟩
section AMB
variable {qQ : Nat} {A : Nat → Prop} {U : State} {H : Heap}
theorem amb_nw_0 (h : amb qQ A U H) : va_Nw (.methodLinkNest "CurvePaths" (11) ({ cls := "CurvePaths$Axes", name := "<init>", desc := "()V" }) "CurvePaths") U := h.1
theorem amb_nw_1 (h : amb qQ A U H) : va_Nw (.methodLinkNest "CurvePaths" (18) ({ cls := "CurvePaths$Arc", name := "<init>", desc := "()V" }) "CurvePaths") U := h.2.1
theorem amb_nw_2 (h : amb qQ A U H) : va_Nw (.methodLinkNest "CurvePaths" (25) ({ cls := "CurvePaths$Halving", name := "<init>", desc := "()V" }) "CurvePaths") U := h.2.2.1
theorem amb_nw_3 (h : amb qQ A U H) : va_Nw (.methodLinkNest "CurvePaths" (32) ({ cls := "CurvePaths$Path", name := "<init>", desc := "()V" }) "CurvePaths") U := h.2.2.2.1
theorem amb_nw_4 (h : amb qQ A U H) : va_Nw (.fieldLinkNest "CurvePaths$Arc" (94) "CurvePaths" "QUARTER" "[I" "CurvePaths") U := h.2.2.2.2.1
theorem amb_nw_5 (h : amb qQ A U H) : va_Nw (.methodLinkNest "CurvePaths$Arc" (60) ({ cls := "CurvePaths", name := "turnRow", desc := "([III)V" }) "CurvePaths") U := h.2.2.2.2.2.1
theorem amb_nw_6 (h : amb qQ A U H) : va_Nw (.methodLinkNest "CurvePaths$Arc" (73) ({ cls := "CurvePaths", name := "isFarPoint", desc := "(JJ)Z" }) "CurvePaths") U := h.2.2.2.2.2.2.1
theorem amb_nw_7 (h : amb qQ A U H) : va_Nw (.methodLinkNest "CurvePaths$Path" (59) ({ cls := "CurvePaths", name := "turnRow", desc := "([III)V" }) "CurvePaths") U := h.2.2.2.2.2.2.2.1
theorem amb_nw_8 (h : amb qQ A U H) : va_Nw (.methodLinkNest "CurvePathsModel" (9) ({ cls := "CurvePathsModel$Path", name := "<init>", desc := "()V" }) "CurvePathsModel") U := h.2.2.2.2.2.2.2.2.1
theorem amb_nw_9 (h : amb qQ A U H) : va_Nw (.fieldLinkNest "CurvePathsModel" (77) "CurvePathsModel$Path" "kinds" "[B" "CurvePathsModel") U := h.2.2.2.2.2.2.2.2.2.1
theorem amb_nw_10 (h : amb qQ A U H) : va_Nw (.fieldLinkNest "CurvePathsModel" (42) "CurvePathsModel$Path" "size" "I" "CurvePathsModel") U := h.2.2.2.2.2.2.2.2.2.2.1
theorem amb_nw_11 (h : amb qQ A U H) : va_Nw (.fieldLinkNest "CurvePathsModel" (39) "CurvePathsModel$Path" "full" "Z" "CurvePathsModel") U := h.2.2.2.2.2.2.2.2.2.2.2.1
theorem amb_nw_12 (h : amb qQ A U H) : va_Nw (.fieldLinkNest "CurvePathsModel" (35) "CurvePathsModel$Path" "far" "Z" "CurvePathsModel") U := h.2.2.2.2.2.2.2.2.2.2.2.2.1
theorem amb_nw_13 (h : amb qQ A U H) : va_Nw (.methodLinkNest "CurvePathsModel" (88) ({ cls := "CurvePathsModel$Path", name := "isFar", desc := "(J)Z" }) "CurvePathsModel") U := h.2.2.2.2.2.2.2.2.2.2.2.2.2.1
theorem amb_z (h : amb qQ A U H) : va_Z "CurvePaths" "QUARTER" "[I" (.ref qQ) A U H := h.2.2.2.2.2.2.2.2.2.2.2.2.2.2.1
theorem amb_t (h : amb qQ A U H) : va_T .int qQ 8 (fun j => .int (qtab j)) A U H := h.2.2.2.2.2.2.2.2.2.2.2.2.2.2.2
end AMB
theorem gw_objc : Cond.code objectInit ⟨#[0xb1]⟩ 1 none ∈ gw := gw_43
