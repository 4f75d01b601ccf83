/-! a cell with another text of the same contents -/
theorem set_same {α : Type} {l : List α} {k : Nat} {x : α} (h : l[k]? = some x) : l.set k x = l := by
  apply List.ext_getElem?
  intro j
  rw [List.getElem?_set]
  by_cases hj : k = j
  · subst hj
    have hk : k < l.length := by
      rcases Nat.lt_or_ge k l.length with z | z
      · exact z
      · rw [List.getElem?_eq_none z] at h; cases h
    rw [if_pos rfl, if_pos hk, h]
  · rw [if_neg hj]
theorem va_P_set {D : va_G} {cl : List vw_C} {ws ws' : va_W} {H : Heap} (h : va_P D cl ws H) (k : Nat) {a : Nat} {x y : va_E} (hx : ws[k]? = some (a, x)) (hxy : x = y) (hw : ws.set k (a, y) = ws') : va_P D cl ws' H := by
  subst hxy
  rw [← hw, set_same hx]
  exact h
theorem va_D_set {A : Nat → Prop} {ws ws' : va_W} (h : va_D A ws) (k : Nat) {a : Nat} {x y : va_E} (hx : ws[k]? = some (a, x)) (hxy : x = y) (hw : ws.set k (a, y) = ws') : va_D A ws' := by
  subst hxy
  rw [← hw, set_same hx]
  exact h
