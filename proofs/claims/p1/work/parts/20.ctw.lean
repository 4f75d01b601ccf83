section CTW
variable {p : Program} {l : Launch} {e : Env} {R : Room} {s : State} {m : MethodId} {args : Array Value} {below : List Frame} {meth : Method} {c : Code} {H : Heap} {locs : List Loc} {cells slots : Nat} {Q : State → Prop}
variable {cc : ByteArray} {pc : Nat} {ls : Array Slot} {rest st : List Value} {D : va_G} {cl : List vw_C} {A : Nat → Prop} {tys : List (ClassId × FieldType)} {ws : va_W}
variable {AM : (Nat → Prop) → State → Heap → Prop} {S : Type} {ok : S → Prop} {rv : S → Option Value} {w1 : S → va_W} {mc ms : Nat}
variable {y : MethodName} {w w' : List Cond} {fr lo : Nat} {av As : List Value} {w0 : va_W} {wr : va_W} {bytes : ByteArray} {maxL nL n index ci q0 N b : Nat} {ret : Option FieldType} {Ts : List Cond} {own C host : String} {T : u_T} {fs : List Value}
/-- invokevirtual over a deep operand stack -/
theorem ct_callVW (wd : Nat) (h8 : 8 ≤ wd) (hM : ct l D cl tys AM y w fr lo mc ms (.ref b :: As) w0 ok rv w1) (hx : p.tables.exec = Jvm.exec) (hb : c.code = cc) (hml : c.maxLocals = nL) (hown : s.vm.findClass own = some m.cls) (hts : ∀ q ∈ Ts, q.before args s = true) (hAM : ctA AM) (hK : va_K D cl tys s) (hP : va_P D cl ws H) (hD : va_D A ws) (hS : va_S A s.heap H locs) (hA : ∀ q : Nat, s.heap.size ≤ q → A q) (hMM : AM A s s.heap)
    (hG : GoodIn Ts (wsV own index C y w)) (hw : w = Cond.code y bytes maxL ret :: w') (hd : y.cls = C ∧ y.cls ≠ "java/lang/invoke/MethodHandle" ∧ y.cls ≠ "java/lang/invoke/VarHandle" ∧ (parseMethodDescriptor y.desc).map (fun d => d.parameters.length) = some n) (hR : fr + 1 ≤ R.frames ∧ wd + (maxL + 11) + lo ≤ R.locals)
    (isC isR : List Nat) (hC : isC.map (fun i => ws[i]?) = w0.map some) (hRr : isR.map (fun i => ws[i]?) = wr.map some) (hnC : va_nd isC = true) (hnR : va_nd isR = true) (hdis : ∀ i ∈ isR, i ∉ isC) (hrc : cl[ci]? = some (C, T, N)) (hre : ws[q0]? = some (b, .inr (ci, fs))) (hn : As.length = n) (hsize : ls.size = nL) (hst : st = As.reverse ++ .ref b :: rest) (hW : (rest.map fun v => v.category).sum ≤ wd) (hdg : decode cc pc = .ok (.invokevirtual index, 3)) (hf : cells + mc ≤ R.cells ∧ slots + ms ≤ R.slots)
    (kk : ∀ (u : S) (H1 : Heap) (locs1 : List Loc), ok u → va_P D cl (wr ++ w1 u) H1 → va_D A (wr ++ w1 u) → va_S A s.heap H1 locs1 → W p l e R s m args below meth c H1 locs1 (cells + mc) (slots + ms) Q (F0 m (pc + 3) ls ((rv u).toList ++ rest))) : W p l e R s m args below meth c H locs cells slots Q (F0 m pc ls st) := by
  refine ct_back (a := (Value.ref b :: As).toArray) hP hD hS hA isC isR hC hRr hnR hdis ?_ kk
  have cw := cwV (R := R) (rm := { frames := fr, cells := mc, slots := ms, locals := lo }) (mc := mc) (ms := ms) n hts hG hw rfl rfl hd ⟨hR.1, Nat.le_trans (by show 8 + (maxL + 11) + lo ≤ wd + (maxL + 11) + lo; omega) hR.2⟩
  obtain ⟨⟨hrc1, hrs1, hfr1, -, hws1, hcw1, hcode1, hini1, hy1, hlen1, hl1⟩, hin1, hse1⟩ := cw
  have hB : Back l R p e below s args y 3 wd (PreOf R mc ms (ctP D cl tys AM (.ref b :: As) w0 H.size)) (PostOf (ctQ D cl ok rv w1 (va_A w0 H.size)) mc ms (va_A w0 H.size)) :=
    back_of (bytes := bytes) (maxL := maxL) (ret := ret) (hM H.size) (ctP_blind hAM) hrc1 hrs1 hfr1 hR.2 hws1 hcw1 (fun a' U hW9 => word_at hW9 (Or.inl (by first | rfl | simp [Cond.onTables, Cond.keeps, Cond.steady])) hini1)
  obtain ⟨cellB, hcB, hoB, hclB⟩ := va_recv hK hP hrc hre
  intro T0 hT0 X
  obtain ⟨v, vm₁, ⟨U', l2, c2, s2⟩, hW₁, X', ⟨g', mk, t, L, e1, e2, hq, h1, hL, h2, h3⟩, st9⟩ := callV X hx (C := C) (bytes := bytes) (maxL := maxL) (ret := ret) hown hl1 hin1 hse1 hcode1 hy1 hB (by rw [hT0]; exact hcB) hoB hclB (g := F0 m pc ls st) rfl (hsize.trans hml.symm) (argsL := As) (rest := rest) (fun sig h => hn.trans (hlen1 sig h)) hst (by
      have h9 : (F0 m pc ls st).monitorRoom = 0 := rfl
      rw [h9]; omega) (by rw [hb]; exact hdg)
    (fun vm₁ hW₁ => ⟨hf.1, hf.2, ctP_at hAM hK hP hD hS hA hMM isC hC hnC (T0.setVm vm₁) hT0 hW₁⟩)
  dsimp only [Pt.U, Pt.locs, Pt.cells, Pt.slots] at X' e1 e2 h1 h2 h3 st9
  subst h1; subst h2; subst h3
  exact ⟨v, (T0.setVm vm₁).calling g' mk (Value.ref b :: As).toArray, t, U', L, hT0, X', hL, e1, e2, hq, st9⟩
end CTW
/-! small rows of longs, element by element -/
def f8 (a0 a1 a2 a3 a4 a5 a6 a7 : Int64) : Nat → Int64 := fun i => match i with | 0 => a0 | 1 => a1 | 2 => a2 | 3 => a3 | 4 => a4 | 5 => a5 | 6 => a6 | 7 => a7 | _ => 0
def f4 (a0 a1 a2 a3 : Int64) : Nat → Int64 := fun i => match i with | 0 => a0 | 1 => a1 | 2 => a2 | 3 => a3 | _ => 0
section F8
variable {a0 a1 a2 a3 a4 a5 a6 a7 x : Int64}
theorem f8_0 : vp_updL (f8 a0 a1 a2 a3 a4 a5 a6 a7) 0 x = f8 x a1 a2 a3 a4 a5 a6 a7 := by
  funext i
  match i with
  | 0 => rfl
  | 1 => rfl
  | 2 => rfl
  | 3 => rfl
  | 4 => rfl
  | 5 => rfl
  | 6 => rfl
  | 7 => rfl
  | n + 8 => rfl
theorem f8_1 : vp_updL (f8 a0 a1 a2 a3 a4 a5 a6 a7) 1 x = f8 a0 x a2 a3 a4 a5 a6 a7 := by
  funext i
  match i with
  | 0 => rfl
  | 1 => rfl
  | 2 => rfl
  | 3 => rfl
  | 4 => rfl
  | 5 => rfl
  | 6 => rfl
  | 7 => rfl
  | n + 8 => rfl
theorem f8_2 : vp_updL (f8 a0 a1 a2 a3 a4 a5 a6 a7) 2 x = f8 a0 a1 x a3 a4 a5 a6 a7 := by
  funext i
  match i with
  | 0 => rfl
  | 1 => rfl
  | 2 => rfl
  | 3 => rfl
  | 4 => rfl
  | 5 => rfl
  | 6 => rfl
  | 7 => rfl
  | n + 8 => rfl
theorem f8_3 : vp_updL (f8 a0 a1 a2 a3 a4 a5 a6 a7) 3 x = f8 a0 a1 a2 x a4 a5 a6 a7 := by
  funext i
  match i with
  | 0 => rfl
  | 1 => rfl
  | 2 => rfl
  | 3 => rfl
  | 4 => rfl
  | 5 => rfl
  | 6 => rfl
  | 7 => rfl
  | n + 8 => rfl
theorem f8_4 : vp_updL (f8 a0 a1 a2 a3 a4 a5 a6 a7) 4 x = f8 a0 a1 a2 a3 x a5 a6 a7 := by
  funext i
  match i with
  | 0 => rfl
  | 1 => rfl
  | 2 => rfl
  | 3 => rfl
  | 4 => rfl
  | 5 => rfl
  | 6 => rfl
  | 7 => rfl
  | n + 8 => rfl
theorem f8_5 : vp_updL (f8 a0 a1 a2 a3 a4 a5 a6 a7) 5 x = f8 a0 a1 a2 a3 a4 x a6 a7 := by
  funext i
  match i with
  | 0 => rfl
  | 1 => rfl
  | 2 => rfl
  | 3 => rfl
  | 4 => rfl
  | 5 => rfl
  | 6 => rfl
  | 7 => rfl
  | n + 8 => rfl
theorem f8_6 : vp_updL (f8 a0 a1 a2 a3 a4 a5 a6 a7) 6 x = f8 a0 a1 a2 a3 a4 a5 x a7 := by
  funext i
  match i with
  | 0 => rfl
  | 1 => rfl
  | 2 => rfl
  | 3 => rfl
  | 4 => rfl
  | 5 => rfl
  | 6 => rfl
  | 7 => rfl
  | n + 8 => rfl
theorem f8_7 : vp_updL (f8 a0 a1 a2 a3 a4 a5 a6 a7) 7 x = f8 a0 a1 a2 a3 a4 a5 a6 x := by
  funext i
  match i with
  | 0 => rfl
  | 1 => rfl
  | 2 => rfl
  | 3 => rfl
  | 4 => rfl
  | 5 => rfl
  | 6 => rfl
  | 7 => rfl
  | n + 8 => rfl
theorem f4_0 : vp_updL (f4 a0 a1 a2 a3) 0 x = f4 x a1 a2 a3 := by
  funext i
  match i with
  | 0 => rfl
  | 1 => rfl
  | 2 => rfl
  | 3 => rfl
  | n + 4 => rfl
theorem f4_1 : vp_updL (f4 a0 a1 a2 a3) 1 x = f4 a0 x a2 a3 := by
  funext i
  match i with
  | 0 => rfl
  | 1 => rfl
  | 2 => rfl
  | 3 => rfl
  | n + 4 => rfl
theorem f4_2 : vp_updL (f4 a0 a1 a2 a3) 2 x = f4 a0 a1 x a3 := by
  funext i
  match i with
  | 0 => rfl
  | 1 => rfl
  | 2 => rfl
  | 3 => rfl
  | n + 4 => rfl
theorem f4_3 : vp_updL (f4 a0 a1 a2 a3) 3 x = f4 a0 a1 a2 x := by
  funext i
  match i with
  | 0 => rfl
  | 1 => rfl
  | 2 => rfl
  | 3 => rfl
  | n + 4 => rfl
theorem f8_z : (fun _ : Nat => (0 : Int64)) = f8 0 0 0 0 0 0 0 0 := by
  funext i
  match i with
  | 0 => rfl
  | 1 => rfl
  | 2 => rfl
  | 3 => rfl
  | 4 => rfl
  | 5 => rfl
  | 6 => rfl
  | 7 => rfl
  | n + 8 => rfl
theorem f4_z : (fun _ : Nat => (0 : Int64)) = f4 0 0 0 0 := by
  funext i
  match i with
  | 0 => rfl
  | 1 => rfl
  | 2 => rfl
  | 3 => rfl
  | n + 4 => rfl
end F8
