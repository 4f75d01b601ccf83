/-! the arc as one list, and what it keeps -/
section RA
variable {ps : List Pt} {ax : Ax4} {x y s e way : Int32}
theorem rArc_U (hl : ps.length ≤ 3000) (h : ¬ arcFar x y s.toInt64 (aendU s e)) : rArc ps ax x y s e 0 = putAll ps ps (swp ps x.toInt64 y.toInt64 ax (reck s.toInt64 (aendU s e))) := by
  obtain ⟨h1, h2, h3, h4⟩ := arcU_hyp h
  rw [rArc_0n h, arc_all h1 h2 h3 h4, setl_all hl, if_neg Bool.false_ne_true]
theorem rArc_D (hl : ps.length ≤ 3000) (h : ¬ arcFar x y s.toInt64 (aendD s e)) : rArc ps ax x y s e 1 = putAll ps ps (swp ps x.toInt64 y.toInt64 ax (reck (aendD s e) s.toInt64).reverse) := by
  obtain ⟨h1, h2, h3, h4⟩ := arcD_hyp h
  rw [rArc_1n h, arc_all h2 h1 h3 h4, setl_all hl, if_pos rfl]
theorem arc_pkp (h : pkp ps) : pkp (rArc ps ax x y s e way).2 := by
  by_cases h0 : way = 0
  · subst h0
    by_cases hf : arcFar x y s.toInt64 (aendU s e)
    · rw [rArc_0f hf]; exact h
    · rw [rArc_U h.2 hf]
      exact put_pkp h (fun z => swp_gdp h.1 z)
  · by_cases h1 : way = 1
    · subst h1
      by_cases hf : arcFar x y s.toInt64 (aendD s e)
      · rw [rArc_1f hf]; exact h
      · rw [rArc_D h.2 hf]
        exact put_pkp h (fun z => swp_gdp h.1 z)
    · have : rArc ps ax x y s e way = (-1, ps) := by unfold rArc; rw [if_neg h0, if_neg h1]
      rw [this]
      exact h
end RA
