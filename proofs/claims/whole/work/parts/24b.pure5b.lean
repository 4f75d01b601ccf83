theorem arcLoop_f {x y : Int64} {ax : Ax4} {z0 z1 : Int64} {fq lq i : Int64} {st : Bool × DS} (h : ¬ lq < i) (hq : lq.toInt < 9223372036854775807) : arcLoop x y ax z0 z1 false fq lq (cnt lq i) i st = arcLoop x y ax z0 z1 false fq lq (cnt lq (i + 1)) (i + 1) (arcStep x y ax z0 z1 false i st) := by
  rw [cnt_s h hq]
  rfl
theorem arcLoop_t {x y : Int64} {ax : Ax4} {z0 z1 : Int64} {fq lq i : Int64} {st : Bool × DS} (h : ¬ lq < i) (hq : lq.toInt < 9223372036854775807) : arcLoop x y ax z0 z1 true fq lq (cnt lq i) i st = arcLoop x y ax z0 z1 true fq lq (cnt lq (i + 1)) (i + 1) (arcStep x y ax z0 z1 true (fq + lq - i) st) := by
  rw [cnt_s h hq]
  rfl
theorem arcEnd_f {x y : Int64} {ax : Ax4} {t : Int64} {d : DS} {u : V8} (hu : u = qv8 (fmd (fdv t 5898240) 4)) : arcEnd x y ax t (false, d) = ptA d x y ax (befo u (plc t)) := by
  subst hu
  rfl
theorem arcEnd_t {x y : Int64} {ax : Ax4} {t : Int64} {d : DS} : arcEnd x y ax t (true, d) = d := rfl
theorem ptA_u {d : DS} {x y p q r s u0 u1 u2 u3 u4 u5 u6 u7 t : Int64} : ptA d x y (p, q, r, s) (befo (u0, u1, u2, u3, u4, u5, u6, u7) t) = bArc d (aro x (mx3 u0 u2 u4 u6 t) (mx3 u1 u3 u5 u7 t) p r) (aro y (mx3 u0 u2 u4 u6 t) (mx3 u1 u3 u5 u7 t) q s) := rfl
