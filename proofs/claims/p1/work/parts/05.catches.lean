/-! A THROW THAT IS CAUGHT: the search through the method's own table, entry by entry (its class's pool entry cold or warm), then the walk goes on at the handler. -/
section XtGo
def xt_Go (e : Env) (s : State) (f : JFrame) (a : Addr) (es : List ExceptionTableEntry) (h : Handler) (vm' : Vm) : Prop :=
  ∀ (Q : Handler → Pre) (E : CtlPost) (d : Bool) (acts : List Action), wp (findHandler.go f a es) Q E e d acts s ↔ Q h d acts (s.setVm vm')
theorem xt_Go.skip {e : Env} {s : State} {f : JFrame} {a : Addr} {x : ExceptionTableEntry} {es : List ExceptionTableEntry} {h : Handler} {vm' : Vm} (hx : covers x f.pc = false) (k : xt_Go e s f a es h vm') : xt_Go e s f a (x :: es) h vm' :=
  fun Q E d acts => (W.findHandler_go_skip hx).trans (k Q E d acts)
theorem xt_Go.hit {e : Env} {s : State} {f : JFrame} {a : Addr} {x : ExceptionTableEntry} {es : List ExceptionTableEntry} {c : ClassId} {cell : Cell} (hx : covers x f.pc = true) (h0 : x.catchType ≠ 0)
    (hl : s.vm.ClassLinks e.platform f.method.cls x.catchType c) (hcell : s.heap[a]? = some cell) (hobj : ∀ k, cell.vm ≠ .statics k)
    (hk : ∃ k, s.vm.classes[cell.cls]? = some k) (hc : ∃ k, s.vm.classes[c]? = some k) (hfit : s.vm.assignable cell.cls c = true) :
    xt_Go e s f a (x :: es) (.found x.handlerPc) (s.vm.noted f.method.cls x.catchType (.cls c)) := by
  intro Q E d acts
  simp only [covers] at hx
  obtain ⟨ha, ht⟩ := (resolveClass_links e.toSetting hl).op (op := VmOp.resolveClass f.method.cls x.catchType) rfl
  have hal : s.vm.Alike (s.vm.noted f.method.cls x.catchType (.cls c)) := (Vm.Alike.refl s.vm).noted _ _ _
  obtain ⟨k1, hk1⟩ := hk
  obtain ⟨k2, hk2⟩ := hc
  obtain ⟨k1', hk1', -⟩ := hal.2.2 _ _ hk1
  obtain ⟨k2', hk2', -⟩ := hal.2.2 _ _ hk2
  have hfit' : (s.vm.noted f.method.cls x.catchType (.cls c)).assignable cell.cls c = true := by rw [hal.assignable]; exact hfit
  simp [findHandler.go, hx, h0, ha, ht, hcell, hobj, hk1', hk2', hfit', VmOp.dirties, VmOp.acts]
theorem xt_Go.pass {e : Env} {s : State} {f : JFrame} {a : Addr} {x : ExceptionTableEntry} {es : List ExceptionTableEntry} {c : ClassId} {cell : Cell} {h : Handler} {vm' : Vm} (hx : covers x f.pc = true) (h0 : x.catchType ≠ 0)
    (hl : s.vm.ClassLinks e.platform f.method.cls x.catchType c) (hcell : s.heap[a]? = some cell) (hobj : ∀ k, cell.vm ≠ .statics k)
    (hk : ∃ k, s.vm.classes[cell.cls]? = some k) (hc : ∃ k, s.vm.classes[c]? = some k) (hfit : s.vm.assignable cell.cls c = false)
    (kk : xt_Go e (s.setVm (s.vm.noted f.method.cls x.catchType (.cls c))) f a es h vm') :
    xt_Go e s f a (x :: es) h vm' := by
  intro Q E d acts
  have k3 := kk Q E d acts
  simp only [covers] at hx
  obtain ⟨ha, ht⟩ := (resolveClass_links e.toSetting hl).op (op := VmOp.resolveClass f.method.cls x.catchType) rfl
  have hal : s.vm.Alike (s.vm.noted f.method.cls x.catchType (.cls c)) := (Vm.Alike.refl s.vm).noted _ _ _
  obtain ⟨k1, hk1⟩ := hk
  obtain ⟨k2, hk2⟩ := hc
  obtain ⟨k1', hk1', -⟩ := hal.2.2 _ _ hk1
  obtain ⟨k2', hk2', -⟩ := hal.2.2 _ _ hk2
  have hfit' : (s.vm.noted f.method.cls x.catchType (.cls c)).assignable cell.cls c = false := by rw [hal.assignable]; exact hfit
  have k4 : (s.setVm (s.vm.noted f.method.cls x.catchType (.cls c))).setVm vm' = s.setVm vm' := rfl
  rw [k4] at k3
  rw [← k3]
  simp [findHandler.go, hx, h0, ha, ht, hcell, hobj, hk1', hk2', hfit', VmOp.dirties, VmOp.acts]
theorem xt_stepCatch {e : Env} {s : State} {a : Addr} {f : JFrame} {r : List Frame} {pc : Nat} {vm' : Vm} {meth : Method} {code : Code} (hm : s.vm.method? f.method = some meth) (hc : meth.code = some code) (hfind : xt_Go e s f a code.exceptionTable.toList (.found pc) vm') :
    (stepThrowing e s a (.java f :: r)).Is ((s.setVm vm').setFrames (.java { f with pc := pc, stack := [.ref a] } :: r)) [] := by
  have hf2 : ∀ (Q : Handler → Pre) (E : CtlPost) (d : Bool) (acts : List Action), wp (findHandler f a) Q E e d acts s ↔ Q (.found pc) d acts (s.setVm vm') := fun Q E d acts => (W.findHandler_eq hm hc).trans (hfind Q E d acts)
  simp only [stepThrowing, searchFrame, vmDo]
  generalize hr : Sem.go _ e false [] s = res
  obtain ⟨as, rfl, ha⟩ := Sem.eq_ok_of hr (a := Handler.found pc) (s' := s.setVm vm') (acts' := []) (by simp [hf2 _ _ _ _])
  exact ⟨rfl, ha⟩
theorem xt_setFV (u : State) (vm' : Vm) (F G : List Frame) : ((u.setFrames F).setVm vm').setFrames G = (u.setVm vm').setFrames G := by
  have h1 : (u.setFrames F).setVm vm' = (u.setVm vm').setFrames F := rfl
  rw [h1, State.setFrames_setFrames]
theorem xt_caught {tb : Tables} {e : Env} {s target : State} {g : JFrame} {c : Code} {below : List Frame} {a : Addr} (h : At s g.method c below) {pc : Nat} {vm' : Vm} {meth : Method} (hm : s.vm.method? g.method = some meth) (hc : meth.code = some c)
    (hfind : xt_Go e ((s.setTop g).pushFrame (.throwing a)) g a c.exceptionTable.toList (.found pc) vm') (hrest : Steps tb e below ((s.setVm vm').setTop { g with pc := pc, stack := [.ref a] }) target) :
    Steps tb e below ((s.setTop g).pushFrame (.throwing a)) target := by
  obtain ⟨hgo, hw⟩ := h.throwing a
  refine Steps.head hgo hw ?_
  rw [stepThread_throwing (frames_entered h.top _), (xt_stepCatch (s := (s.setTop g).pushFrame (.throwing a)) (meth := meth) (code := c) (by simpa [State.pushFrame, State.setFrames] using hm) hc hfind).1]
  obtain ⟨g₀, hg⟩ := Option.isSome_iff_exists.mp h.top
  obtain ⟨r, hr⟩ := State.topJava?_eq_some.mp hg
  have hr' : (s.setVm vm').frames = .java g₀ :: r := hr
  rw [State.setTop_of_frames _ hr'] at hrest
  rw [hr, List.tail_cons, State.pushFrame, xt_setFV, State.setTop_of_frames _ hr, xt_setFV]
  exact hrest
end XtGo
section XtCatch
variable {p : Program} {l : Launch} {e : Env} {R : Room} {s : State} {m : MethodId} {args : Array Value} {below : List Frame} {meth : Method} {c : Code} {H : Heap} {locs : List Loc} {cells slots : Nat} {Q : State → Prop}
/-- an entry of the table, at a pc that it covers, whose class the pool names: the tables note it -/
theorem xt_entry {T : State} (X : Stand p l e R s m args below meth c T locs cells slots) {own name : String} {ct : Nat} (hown : s.vm.findClass own = some m.cls) (hlink : (Cond.classLink own ct name).before args s = true) :
    ∃ cT, s.vm.findClass name = some cT ∧ T.vm.ClassLinks e.platform m.cls ct cT ∧ (∃ k, T.vm.classes[cT]? = some k) ∧ Stand p l e R s m args below meth c (T.setVm (T.vm.noted m.cls ct (.cls cT))) locs cells slots := by
  have hpl : e.platform.magicAccessors = ({} : Platform).magicAccessors := by rw [X.admits.platform]
  obtain ⟨cT, hcT, hcl⟩ := Cond.classLink_spec hown hlink e.platform hpl
  obtain ⟨dk, _, _, kt, hd, _, _, _, _, hkt, _, hopen⟩ := hcl.here
  have hW' : s.WarmedH (T.vm.noted m.cls ct (.cls cT)) := X.warmed.noted hd hopen (State.rightAt_cls hcl)
  obtain ⟨kt', hkt', -⟩ := X.warmed.alike.2.2 _ _ hkt
  exact ⟨cT, hcT, X.warmed.classLinks hcl, ⟨kt', hkt'⟩, X.noted hW'⟩
/-- what the search through a table gives, said of every point of this walk that holds the object: the handler's pc -/
def xt_Leads (p : Program) (l : Launch) (e : Env) (R : Room) (s : State) (m : MethodId) (args : Array Value) (below : List Frame) (meth : Method) (c : Code) (E : String) (pc : Nat) (es : List ExceptionTableEntry) (hpc : Nat) : Prop :=
  ∀ (T : State) (locs : List Loc) (cells slots : Nat) (g : JFrame) (x : Nat), Stand p l e R s m args below meth c T locs cells slots → g.method = m → g.pc = pc → xt_Ob E x s T.heap →
    ∃ vm', Stand p l e R s m args below meth c (T.setVm vm') locs cells slots ∧ xt_Go e ((T.setTop g).pushFrame (.throwing x)) g x es (.found hpc) vm'
theorem xt_Leads.skip {E : String} {pc hpc : Nat} {x : ExceptionTableEntry} {es : List ExceptionTableEntry} (hx : covers x pc = false) (k : xt_Leads p l e R s m args below meth c E pc es hpc) : xt_Leads p l e R s m args below meth c E pc (x :: es) hpc := by
  intro T locs cells slots g a X hg hp ho
  obtain ⟨vm', X', h⟩ := k T locs cells slots g a X hg hp ho
  exact ⟨vm', X', h.skip (by rw [hp]; exact hx)⟩
theorem xt_Leads.hit {E own name : String} {pc : Nat} {x : ExceptionTableEntry} {es : List ExceptionTableEntry} (hown : s.vm.findClass own = some m.cls) (hx : covers x pc = true) (h0 : x.catchType ≠ 0) (hlink : (Cond.classLink own x.catchType name).before args s = true) (hcast : (Cond.castable E name).before args s = true) :
    xt_Leads p l e R s m args below meth c E pc (x :: es) x.handlerPc := by
  intro T locs cells slots g a X hg hp ho
  obtain ⟨cT, hcT, hcl, hkt, X'⟩ := xt_entry X hown hlink
  obtain ⟨cell, h1, h2, h3⟩ := ho
  obtain ⟨c3, c4, hc3, hc4, hasg⟩ := Cond.castable_spec hcast
  cases h2.symm.trans hc3
  cases hcT.symm.trans hc4
  have hal := X.warmed.alike
  have hfit' : T.vm.assignable cell.cls cT = true := by rw [hal.assignable]; exact hasg
  subst hg
  exact ⟨_, X', xt_Go.hit (s := (T.setTop g).pushFrame (.throwing a)) (by rw [hp]; exact hx) h0 hcl h1 (VmData.ne_statics_of h3) (Vm.classAt_of_assignable hfit' hkt) hkt hfit'⟩
theorem xt_Leads.pass {E own name : String} {pc hpc : Nat} {x : ExceptionTableEntry} {es : List ExceptionTableEntry} (hown : s.vm.findClass own = some m.cls) (hx : covers x pc = true) (h0 : x.catchType ≠ 0) (hlink : (Cond.classLink own x.catchType name).before args s = true) (hno : va_Nc E name s)
    (k : xt_Leads p l e R s m args below meth c E pc es hpc) : xt_Leads p l e R s m args below meth c E pc (x :: es) hpc := by
  intro T locs cells slots g a X hg hp ho
  obtain ⟨cT, hcT, hcl, hkt, X'⟩ := xt_entry X hown hlink
  obtain ⟨vm', X2, h⟩ := k _ locs cells slots g a X' hg hp ho
  obtain ⟨cell, h1, h2, h3⟩ := ho
  obtain ⟨c3, c4, hc3, hc4, hasg⟩ := hno
  cases h2.symm.trans hc3
  cases hcT.symm.trans hc4
  have hal := X.warmed.alike
  have hfit' : T.vm.assignable cell.cls cT = false := by rw [hal.assignable]; exact hasg
  obtain ⟨k1, hk1⟩ := Vm.classAt_of_findClass h2
  obtain ⟨k1', hk1', -⟩ := hal.2.2 _ _ hk1
  subst hg
  exact ⟨vm', X2, xt_Go.pass (s := (T.setTop g).pushFrame (.throwing a)) (by rw [hp]; exact hx) h0 hcl h1 (VmData.ne_statics_of h3) ⟨k1', hk1'⟩ hkt hfit' h⟩
variable {pc : Nat} {ls : Array Slot} {rest st0 : List Value} {a : Array Value} {A0 A1 : Nat → Prop} {H0 : Heap} {mc ms : Nat} {free : Addr → Prop}
/-- the call throws an E, and the table leads to hpc -/
theorem xt_catch {S : Type} {E : String} {hpc : Nat} {post : S → Prop} {B : S → State → Prop} (hr : xt_Run p l e R s m args below meth c H locs cells slots mc ms (F0 m pc ls st0) rest (xt_Q E post B A1 a) free) (hS : va_S A0 H0 H locs) (hA : ∀ q, q < H.size → A1 q → A0 q) (hf : ∀ q, free q → A0 q)
    (hlead : xt_Leads p l e R s m args below meth c E pc c.exceptionTable.toList hpc)
    (kk : ∀ (u : S) (x : Nat) (t : State) (H1 : Heap) (locs1 : List Loc), t.heap = H1 → s.vm.Alike t.vm → post u → B u t → xt_Ob E x t H1 → H.size ≤ H1.size → (∀ q : Nat, q < H.size → ¬ A1 q → H1[q]? = H[q]?) → va_S A0 H0 H1 locs1 → W p l e R s m args below meth c H1 locs1 (cells + mc) (slots + ms) Q (F0 m hpc ls [.ref x])) :
    W p l e R s m args below meth c H locs cells slots Q (F0 m pc ls st0) := by
  intro T hT X
  obtain ⟨x, st₀, t, T', L, h0, X', hL, e1, e2, ⟨⟨u, x', hv, hp, hb, hob⟩, hz, hk⟩, st⟩ := hr T hT X
  cases hv
  rw [h0] at hz hk
  have hal : s.vm.Alike t.vm := by rw [← e2]; exact X'.warmed.alike
  have hS1 : va_S A0 H0 T'.heap (locs ++ L) := ⟨Nat.le_trans hS.1 (by rw [e1]; exact hz), fun q h1 h2 => by rw [e1, hk q (Nat.lt_of_lt_of_le h1 hS.1) (fun z => h2 (hA q (Nat.lt_of_lt_of_le h1 hS.1) z))]; exact hS.2.1 q h1 h2, fun q hq => by
      rcases List.mem_append.mp hq with h | h
      · exact hS.2.2 q h
      · exact hf _ (hL q h)⟩
  obtain ⟨vm', X2, hgo⟩ := hlead T' (locs ++ L) (cells + mc) (slots + ms) { F0 m pc ls st0 with stack := rest } x X' rfl rfl (by rw [e1]; exact hob.moved hal.symm)
  obtain ⟨t2, a1, b1⟩ := kk u x t T'.heap (locs ++ L) e1.symm hal hp hb (by rw [e1]; exact hob) (by rw [e1]; exact hz) (fun q h1 h2 => by rw [e1]; exact hk q h1 h2) hS1 (T'.setVm vm') rfl X2
  exact ⟨t2, st _ (xt_caught (g := { F0 m pc ls st0 with stack := rest }) X'.here X'.method' X'.code hgo a1), b1⟩
end XtCatch
section XtC2
variable {p : Program} {l : Launch} {e : Env} {R : Room} {s : State} {m : MethodId} {args : Array Value} {below : List Frame} {meth : Method} {c : Code} {H : Heap} {locs : List Loc} {cells slots : Nat} {Q : State → Prop}
variable {pc : Nat} {ls : Array Slot} {rest st0 : List Value} {a : Array Value} {A0 : Nat → Prop} {H0 : Heap} {mc ms : Nat} {D : va_G} {cl : List vw_C} {tys : List (ClassId × FieldType)} {W0 wc wr : va_W}
/-- a call that throws an E, caught here: the world behind it -/
theorem xc_t {S : Type} {E : String} {hpc : Nat} {post : S → Prop} {wf : S → va_W} (hr : xt_Run p l e R s m args below meth c H locs cells slots mc ms (F0 m pc ls st0) rest (xt_Q E post (xB D cl tys wf (va_A wc H.size)) (va_A wc H.size) a) (va_A wc H.size)) (hP : va_P D cl W0 H) (hD : va_D A0 W0) (hS : va_S A0 H0 H locs) (hA : ∀ q, H0.size ≤ q → A0 q) (isC isR : List Nat) (hC : isC.map (fun i => W0[i]?) = wc.map some) (hR : isR.map (fun i => W0[i]?) = wr.map some) (hn : va_nd isR = true) (hdis : ∀ i ∈ isR, i ∉ isC)
    (hlead : xt_Leads p l e R s m args below meth c E pc c.exceptionTable.toList hpc)
    (kk : ∀ (u : S) (x : Nat) (H1 : Heap) (locs1 : List Loc), post u → va_P D cl (wr ++ wf u) H1 → va_D A0 (wr ++ wf u) → va_S A0 H0 H1 locs1 → W p l e R s m args below meth c H1 locs1 (cells + mc) (slots + ms) Q (F0 m hpc ls [.ref x])) : W p l e R s m args below meth c H locs cells slots Q (F0 m pc ls st0) := by
  have hFc := va_free (wc := wc) hD hS hA isC hC
  refine xt_catch hr hS (fun q _ h => hFc q h) hFc hlead (fun u x t H1 locs1 ht hvm hw hB hob hz1 hk1 hS1 => ?_)
  obtain ⟨hP1, hK1, hD1⟩ := hB
  rw [ht] at hP1
  obtain ⟨hP2, hD2⟩ := va_join (wr := wr) (w1 := wf u) hP hD isC isR hC hR hn hdis hk1 hFc hP1 hD1
  exact kk u x H1 locs1 hw hP2 hD2 hS1
/-- a call that throws an E, which leaves this method too: its end in the same form -/
theorem xc_o {S S2 : Type} {E : String} {post : S → Prop} {wf : S → va_W} {post2 : S2 → Prop} {wf2 : S2 → va_W} {A2 : Nat → Prop} {free2 : Addr → Prop} (hr : xt_Run p l e R s m args below meth c H locs cells slots mc ms (F0 m pc ls st0) rest (xt_Q E post (xB D cl tys wf (va_A wc H.size)) (va_A wc H.size) a) (va_A wc H.size)) (hK : va_K D cl tys s) (hP : va_P D cl W0 H) (hD : va_D A2 W0) (hS : va_S A2 s.heap H locs) (hA : ∀ q, s.heap.size ≤ q → A2 q) (isC isR : List Nat) (hC : isC.map (fun i => W0[i]?) = wc.map some) (hR : isR.map (fun i => W0[i]?) = wr.map some) (hn : va_nd isR = true) (hdis : ∀ i ∈ isR, i ∉ isC)
    (hout : c.exceptionTable.toList = []) (hlocks : meth.locks = false) (hfr : ∀ q, A2 q → free2 q)
    (kk : ∀ (u : S), post u → ∃ u2 : S2, post2 u2 ∧ ∀ (H1 : Heap), va_P D cl (wr ++ wf u) H1 → va_D A2 (wr ++ wf u) → va_P D cl (wf2 u2) H1 ∧ va_D A2 (wf2 u2)) :
    W p l e R s m args below meth c H locs cells slots (xt_MQ below (xt_Q E post2 (xB D cl tys wf2 A2) A2) args s (cells + mc) (slots + ms) free2) (F0 m pc ls st0) := by
  have hFc := va_free (wc := wc) hD hS hA isC hC
  refine xt_leave hr hS (fun q _ h => hFc q h) hFc (by rw [hout]; intro z hz; cases hz) hlocks hfr (fun u x t H1 locs1 ht hvm hw hB hob hz1 hk1 hS1 t2 ht2 hW2 => ?_)
  obtain ⟨hP1, hK1, hD1⟩ := hB
  rw [ht] at hP1
  obtain ⟨hP2, hD2⟩ := va_join (wr := wr) (w1 := wf u) hP hD isC isR hC hR hn hdis hk1 hFc hP1 hD1
  obtain ⟨u2, h2, h3⟩ := kk u hw
  obtain ⟨g1, g2⟩ := h3 H1 hP2 hD2
  exact ⟨⟨u2, x, rfl, h2, ⟨by rw [ht2]; exact g1, va_K.moved hW2.alike hK, g2⟩, by rw [ht2]; exact hob.moved (hvm.symm.trans hW2.alike)⟩, hS1.F ht2⟩
end XtC2
