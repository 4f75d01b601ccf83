section CTW
variable {p : Program} {l : Launch} {e : Env} {R : Room} {s : State} {m : MethodId} {args : Array Value} {below : List Frame} {meth : Method} {c : Code} {H : Heap} {locs : List Loc} {cells slots : Nat} {Q : State → Prop}
variable {cc : ByteArray} {pc : Nat} {ls : Array Slot} {rest st : List Value} {D : va_G} {cl : List vw_C} {A : Nat → Prop} {tys : List (ClassId × FieldType)} {ws : va_W}
variable {AM : (Nat → Prop) → State → Heap → Prop} {S : Type} {ok : S → Prop} {rv : S → Option Value} {w1 : S → va_W} {mc ms : Nat}
variable {y : MethodName} {w w' : List Cond} {fr lo : Nat} {av As : List Value} {w0 : va_W} {wr : va_W} {bytes : ByteArray} {maxL nL n index ci q0 N b : Nat} {ret : Option FieldType} {Ts : List Cond} {own C host : String} {T : u_T} {fs : List Value}
/-- invokevirtual over a deep operand stack -/
theorem ct_callVW (wd : Nat) (h8 : 8 ≤ wd) (hM : ct l D cl tys AM y w fr lo mc ms (.ref b :: As) w0 ok rv w1) (hx : p.tables.exec = Jvm.exec) (hb : c.code = cc) (hml : c.maxLocals = nL) (hown : s.vm.findClass own = some m.cls) (hts : ∀ q ∈ Ts, q.before args s = true) (hAM : ctA AM) (hK : va_K D cl tys s) (hP : va_P D cl ws H) (hD : va_D A ws) (hS : va_S A s.heap H locs) (hA : ∀ q : Nat, s.heap.size ≤ q → A q) (hMM : AM A s s.heap)
    (hG : GoodIn Ts (wsV own index C y w)) (hw : w = Cond.code y bytes maxL ret :: w') (hd : y.cls = C ∧ y.cls ≠ "java/lang/invoke/MethodHandle" ∧ y.cls ≠ "java/lang/invoke/VarHandle" ∧ (parseMethodDescriptor y.desc).map (fun d => d.parameters.length) = some n) (hR : fr + 1 ≤ R.frames ∧ wd + (maxL + 11) + lo ≤ R.locals)
    (isC isR : List Nat) (hC : isC.map (fun i => ws[i]?) = w0.map some) (hRr : isR.map (fun i => ws[i]?) = wr.map some) (hnC : va_nd isC = true) (hnR : va_nd isR = true) (hdis : ∀ i ∈ isR, i ∉ isC) (hrc : cl[ci]? = some (C, T, N)) (hre : ws[q0]? = some (b, .inr (ci, fs))) (hn : As.length = n) (hsize : ls.size = nL) (hst : st = As.reverse ++ .ref b :: rest) (hW : (rest.map fun v => v.category).sum ≤ wd) (hdg : decode cc pc = .ok (.invokevirtual index, 3)) (hf : cells + mc ≤ R.cells ∧ slots + ms ≤ R.slots)
    (kk : ∀ (u : S) (H1 : Heap) (locs1 : List Loc), ok u → va_P D cl (wr ++ w1 u) H1 → va_D A (wr ++ w1 u) → va_S A s.heap H1 locs1 → W p l e R s m args below meth c H1 locs1 (cells + mc) (slots + ms) Q (F0 m (pc + 3) ls ((rv u).toList ++ rest))) : W p l e R s m args below meth c H locs cells slots Q (F0 m pc ls st) := by
  refine ct_back (a := (Value.ref b :: As).toArray) hP hD hS hA isC isR hC hRr hnR hdis ?_ kk
  have cw := cwV (R := R) (rm := { frames := fr, cells := mc, slots := ms, locals := lo }) (mc := mc) (ms := ms) n hts hG hw rfl rfl hd ⟨hR.1, Nat.le_trans (by show 8 + (maxL + 11) + lo ≤ wd + (maxL + 11) + lo; omega) hR.2⟩
  obtain ⟨⟨hrc1, hrs1, hfr1, -, hws1, hcw1, hcode1, hini1, hy1, hlen1, hl1⟩, hin1, hse1⟩ := cw
  have hB : Back l R p e below s args y 3 wd (PreOf R mc ms (ctP D cl tys AM (.ref b :: As) w0 H.size)) (PostOf (ctQ D cl ok rv w1 (va_A w0 H.size)) mc ms (va_A w0 H.size)) :=
    back_of (bytes := bytes) (maxL := maxL) (ret := ret) (hM H.size) (ctP_blind hAM) hrc1 hrs1 hfr1 hR.2 hws1 hcw1 (fun a' U hW9 => word_at hW9 (Or.inl (by first | rfl | simp [Cond.onTables, Cond.keeps, Cond.steady])) hini1)
  obtain ⟨cellB, hcB, hoB, hclB⟩ := va_recv hK hP hrc hre
  intro T0 hT0 X
  obtain ⟨v, vm₁, ⟨U', l2, c2, s2⟩, hW₁, X', ⟨g', mk, t, L, e1, e2, hq, h1, hL, h2, h3⟩, st9⟩ := callV X hx (C := C) (bytes := bytes) (maxL := maxL) (ret := ret) hown hl1 hin1 hse1 hcode1 hy1 hB (by rw [hT0]; exact hcB) hoB hclB (g := F0 m pc ls st) rfl (hsize.trans hml.symm) (argsL := As) (rest := rest) (fun sig h => hn.trans (hlen1 sig h)) hst (by
      have h9 : (F0 m pc ls st).monitorRoom = 0 := rfl
      rw [h9]; omega) (by rw [hb]; exact hdg)
    (fun vm₁ hW₁ => ⟨hf.1, hf.2, ctP_at hAM hK hP hD hS hA hMM isC hC hnC (T0.setVm vm₁) hT0 hW₁⟩)
  dsimp only [Pt.U, Pt.locs, Pt.cells, Pt.slots] at X' e1 e2 h1 h2 h3 st9
  subst h1; subst h2; subst h3
  exact ⟨v, (T0.setVm vm₁).calling g' mk (Value.ref b :: As).toArray, t, U', L, hT0, X', hL, e1, e2, hq, st9⟩
end CTW
/-! small rows of longs, element by element -/
def f8 (a0 a1 a2 a3 a4 a5 a6 a7 : Int64) : Nat → Int64 := fun i => match i with | 0 => a0 | 1 => a1 | 2 => a2 | 3 => a3 | 4 => a4 | 5 => a5 | 6 => a6 | 7 => a7 | _ => 0
def f4 (a0 a1 a2 a3 : Int64) : Nat → Int64 := fun i => match i with | 0 => a0 | 1 => a1 | 2 => a2 | 3 => a3 | _ => 0
section F8
variable {a0 a1 a2 a3 a4 a5 a6 a7 x : Int64}
theorem f8_0 : vp_updL (f8 a0 a1 a2 a3 a4 a5 a6 a7) 0 x = f8 x a1 a2 a3 a4 a5 a6 a7 := by
  funext i
  match i with
  | 0 => rfl
  | 1 => rfl
  | 2 => rfl
  | 3 => rfl
  | 4 => rfl
  | 5 => rfl
  | 6 => rfl
  | 7 => rfl
  | n + 8 => rfl
theorem f8_1 : vp_updL (f8 a0 a1 a2 a3 a4 a5 a6 a7) 1 x = f8 a0 x a2 a3 a4 a5 a6 a7 := by
  funext i
  match i with
  | 0 => rfl
  | 1 => rfl
  | 2 => rfl
  | 3 => rfl
  | 4 => rfl
  | 5 => rfl
  | 6 => rfl
  | 7 => rfl
  | n + 8 => rfl
theorem f8_2 : vp_updL (f8 a0 a1 a2 a3 a4 a5 a6 a7) 2 x = f8 a0 a1 x a3 a4 a5 a6 a7 := by
  funext i
  match i with
  | 0 => rfl
  | 1 => rfl
  | 2 => rfl
  | 3 => rfl
  | 4 => rfl
  | 5 => rfl
  | 6 => rfl
  | 7 => rfl
  | n + 8 => rfl
theorem f8_3 : vp_updL (f8 a0 a1 a2 a3 a4 a5 a6 a7) 3 x = f8 a0 a1 a2 x a4 a5 a6 a7 := by
  funext i
  match i with
  | 0 => rfl
  | 1 => rfl
  | 2 => rfl
  | 3 => rfl
  | 4 => rfl
  | 5 => rfl
  | 6 => rfl
  | 7 => rfl
  | n + 8 => rfl
theorem f8_4 : vp_updL (f8 a0 a1 a2 a3 a4 a5 a6 a7) 4 x = f8 a0 a1 a2 a3 x a5 a6 a7 := by
  funext i
  match i with
  | 0 => rfl
  | 1 => rfl
  | 2 => rfl
  | 3 => rfl
  | 4 => rfl
  | 5 => rfl
  | 6 => rfl
  | 7 => rfl
  | n + 8 => rfl
theorem f8_5 : vp_updL (f8 a0 a1 a2 a3 a4 a5 a6 a7) 5 x = f8 a0 a1 a2 a3 a4 x a6 a7 := by
  funext i
  match i with
  | 0 => rfl
  | 1 => rfl
  | 2 => rfl
  | 3 => rfl
  | 4 => rfl
  | 5 => rfl
  | 6 => rfl
  | 7 => rfl
  | n + 8 => rfl
theorem f8_6 : vp_updL (f8 a0 a1 a2 a3 a4 a5 a6 a7) 6 x = f8 a0 a1 a2 a3 a4 a5 x a7 := by
  funext i
  match i with
  | 0 => rfl
  | 1 => rfl
  | 2 => rfl
  | 3 => rfl
  | 4 => rfl
  | 5 => rfl
  | 6 => rfl
  | 7 => rfl
  | n + 8 => rfl
theorem f8_7 : vp_updL (f8 a0 a1 a2 a3 a4 a5 a6 a7) 7 x = f8 a0 a1 a2 a3 a4 a5 a6 x := by
  funext i
  match i with
  | 0 => rfl
  | 1 => rfl
  | 2 => rfl
  | 3 => rfl
  | 4 => rfl
  | 5 => rfl
  | 6 => rfl
  | 7 => rfl
  | n + 8 => rfl
theorem f4_0 : vp_updL (f4 a0 a1 a2 a3) 0 x = f4 x a1 a2 a3 := by
  funext i
  match i with
  | 0 => rfl
  | 1 => rfl
  | 2 => rfl
  | 3 => rfl
  | n + 4 => rfl
theorem f4_1 : vp_updL (f4 a0 a1 a2 a3) 1 x = f4 a0 x a2 a3 := by
  funext i
  match i with
  | 0 => rfl
  | 1 => rfl
  | 2 => rfl
  | 3 => rfl
  | n + 4 => rfl
theorem f4_2 : vp_updL (f4 a0 a1 a2 a3) 2 x = f4 a0 a1 x a3 := by
  funext i
  match i with
  | 0 => rfl
  | 1 => rfl
  | 2 => rfl
  | 3 => rfl
  | n + 4 => rfl
theorem f4_3 : vp_updL (f4 a0 a1 a2 a3) 3 x = f4 a0 a1 a2 x := by
  funext i
  match i with
  | 0 => rfl
  | 1 => rfl
  | 2 => rfl
  | 3 => rfl
  | n + 4 => rfl
theorem f8_z : (fun _ : Nat => (0 : Int64)) = f8 0 0 0 0 0 0 0 0 := by
  funext i
  match i with
  | 0 => rfl
  | 1 => rfl
  | 2 => rfl
  | 3 => rfl
  | 4 => rfl
  | 5 => rfl
  | 6 => rfl
  | 7 => rfl
  | n + 8 => rfl
theorem f4_z : (fun _ : Nat => (0 : Int64)) = f4 0 0 0 0 := by
  funext i
  match i with
  | 0 => rfl
  | 1 => rfl
  | 2 => rfl
  | 3 => rfl
  | n + 4 => rfl
end F8
/-! methods of classes some of whose methods are the machine's own: these ones are not -/
theorem met_ofWF {l : Launch} {y : MethodName} {ws ws' : List Cond} {rm : Room} {Pc : Array Value → State → Prop} {Qc : Array Value → State → Outcome → State → Prop} {mc ms : Nat} {free : Addr → Prop} {cc : ByteArray} {maxL : Nat} {ret : Option FieldType}
    (hy : plainFor y = true) (hw : ws = Cond.code y cc maxL ret :: ws')
    (body : ∀ p e s m args below meth c s₁, BodyLoose p l y (headSpec ws rm) cc maxL ret e s m args below meth c s₁ → c.maxLocals = maxL → Pc args s →
      W p l e (headSpec ws rm).room s m args below meth c s.heap [] 0 0 (MQ below Qc args s mc ms free) (entryFrame m args maxL)) : Met l y ws rm Pc Qc mc ms free := by
  refine MetFree.of_bodySF (code := cc) (maxLocals := maxL) (ret := ret) hy ?_ ?_
  · intro args s m h hn
    obtain ⟨meth, c, h1, h2, h3, h4, h5, h6, -, -⟩ := Cond.code_spec hn (atoms_spec (ws := ws) h _ (by rw [hw]; exact List.mem_cons_self))
    exact ⟨meth, c, h1, h2, h3, h4, h5, h6⟩
  · intro p e s m args below meth c s₁ B hml hP _
    have hh0 : s₁.heap = s.heap := by rw [B.state]; rfl
    obtain ⟨t, a1, o, b1, b2, b3⟩ := body p e s m args below meth c s₁ B hml hP s₁ hh0 (Stand.of_body B)
    exact ⟨t, o, a1, b1, b2, ⟨b3.1, b3.2⟩⟩
section CTF
variable {l : Launch} {D : va_G} {cl : List vw_C} {tys : List (ClassId × FieldType)} {AM : (Nat → Prop) → State → Heap → Prop} {y : MethodName} {w w' : List Cond} {fr lo mc ms : Nat} {av : List Value} {w0 : va_W} {S : Type} {ok : S → Prop} {rv : S → Option Value} {w1 : S → va_W}
theorem ct_ofWF {cc : ByteArray} {maxL : Nat} {ret : Option FieldType} (hy : plainFor y = true) (hw : w = Cond.code y cc maxL ret :: w') (hle : (lg_sl av).length ≤ maxL)
    (body : ∀ (p : Program) (e : Env) (R : Room) (s : State) (m : MethodId) (args : Array Value) (below : List Frame) (meth : Method) (c : Code) (A : Nat → Prop) (Q : State → Prop) (ls : Array Slot), p.tables.exec = Jvm.exec → c.code = cc → meth.sig.returnType = ret → c.maxLocals = maxL → (∀ q ∈ w, q.before args s = true) → s.vm.findClass y.cls = some m.cls → meth.locks = false → meth.name = y.name → R.frames = fr → R.cells = mc → R.slots = ms → R.locals = lo → Q = MQ below (ctQ D cl ok rv w1 A) args s mc ms A → va_K D cl tys s → va_P D cl w0 s.heap → va_D A w0 → va_S A s.heap s.heap [] → (∀ q : Nat, s.heap.size ≤ q → A q) → AM A s s.heap → lv_has ls maxL (lv_args 0 av) →
      W p l e R s m args below meth c s.heap [] 0 0 Q (F0 m 0 ls [])) : ct l D cl tys AM y w fr lo mc ms av w0 ok rv w1 := by
  intro sz
  refine met_ofWF (cc := cc) (maxL := maxL) (ret := ret) hy hw ?_
  intro p e s m args below meth c s₁ B hml hv
  obtain ⟨ha, hsz, hP, hK, hD0, hM⟩ := hv
  subst hsz
  have hl := lv_entry av (n := maxL) hle
  rw [show entryFrame m args maxL = entryFrame m av.toArray maxL from by rw [ha], lg_entry_eq]
  exact body p e _ s m args below meth c _ _ _ B.exec B.bytes B.returns hml (atoms_spec (ws := w) B.pre) (findClass_of_methodNamed B.named) B.notSynchronized (name_of_methodNamed B.named B.method).1 rfl rfl rfl rfl rfl hK hP hD0.self va_S.rf (fun q h => Or.inr h) hM hl
end CTF
section STF
variable {p : Program} {l : Launch} {e : Env} {R : Room} {s : State} {m : MethodId} {args : Array Value} {below : List Frame} {meth : Method} {c : Code} {H : Heap} {locs : List Loc} {cells slots : Nat} {Q : State → Prop}
variable {cc : ByteArray} {pc : Nat} {ls : Array Slot} {rest : List Value} {D : va_G} {cl : List vw_C} {A : Nat → Prop} {a : Nat} {tys : List (ClassId × FieldType)} {ws : va_W} {H0 : Heap}
/-- a store whose new row has another text -/
theorem sf_l (f' : Nat → Int64) (hexec : p.tables.exec = Jvm.exec) (hb : c.code = cc) (hK : va_K D cl tys s) (hP : va_P D cl ws H) (hD : va_D A ws) (hS : va_S A H0 H locs) (q0 t0 : Nat) {cA : ClassId} {n : Nat} {f : Nat → Int64} (ha : ws[q0]? = some (a, .inl (cA, n, .inr (.inl f)))) (ht : tys[t0]? = some (cA, .long)) (k : Nat) {x : Int64} (hf : vp_updL f k x = f') (hk : k < n) (hn : n < 2 ^ 31) (hdg : decode cc pc = .ok (.lastore, 1))
    (kk : ∀ (H1 : Heap) (locs1 : List Loc), va_P D cl (ws.set q0 (a, .inl (cA, n, .inr (.inl f')))) H1 → va_D A (ws.set q0 (a, .inl (cA, n, .inr (.inl f')))) → va_S A H0 H1 locs1 → W p l e R s m args below meth c H1 locs1 cells slots Q (F0 m (pc + 1) ls rest)) : W p l e R s m args below meth c H locs cells slots Q (F0 m pc ls (.long x :: .int (nI k) :: .ref a :: rest)) := by
  subst hf
  exact st_l hexec hb hK hP hD hS q0 t0 ha ht k hk hn hdg kk
theorem sf_i (f' : Nat → Int32) (hexec : p.tables.exec = Jvm.exec) (hb : c.code = cc) (hK : va_K D cl tys s) (hP : va_P D cl ws H) (hD : va_D A ws) (hS : va_S A H0 H locs) (q0 t0 : Nat) {cA : ClassId} {n : Nat} {f : Nat → Int32} (ha : ws[q0]? = some (a, .inl (cA, n, .inl f))) (ht : tys[t0]? = some (cA, .int)) (k : Nat) {x : Int32} (hf : upd f k x = f') (hk : k < n) (hn : n < 2 ^ 31) (hdg : decode cc pc = .ok (.iastore, 1))
    (kk : ∀ (H1 : Heap) (locs1 : List Loc), va_P D cl (ws.set q0 (a, .inl (cA, n, .inl f'))) H1 → va_D A (ws.set q0 (a, .inl (cA, n, .inl f'))) → va_S A H0 H1 locs1 → W p l e R s m args below meth c H1 locs1 cells slots Q (F0 m (pc + 1) ls rest)) : W p l e R s m args below meth c H locs cells slots Q (F0 m pc ls (.int x :: .int (nI k) :: .ref a :: rest)) := by
  subst hf
  exact st_i hexec hb hK hP hD hS q0 t0 ha ht k hk hn hdg kk
end STF
